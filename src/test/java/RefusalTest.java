import java.util.ArrayList;
import java.util.List;
import java.util.Set;
import java.util.TreeSet;
import java.util.function.ToIntFunction;

/**
 * 'Of several refusals that fit the one named first is answered; a refused call changes nothing. There is no
 * such replica: BAD, for every call with a replica.': each in every situation, for arguments at, below and
 * above each boundary and at the ends of int.
 */
public final class RefusalTest {
    private static final int BAD = SideTreeText.BAD;
    private static final int FULL = SideTreeText.FULL;
    private static final int MIN = Integer.MIN_VALUE;
    private static final int MAX = Integer.MAX_VALUE;
    private static final int TAKEN = 1;
    private static final int[] NO_REPLICAS = {MIN, MIN + 1, -2, -1, 3, 4, MAX - 1, MAX};
    private static final int[] SOME_PLACES = {MIN, -1, 0, 1, MAX};
    private static final List<List<Questions.Question>> PARTS = Questions.parts();

    private enum Kind {
        INSERT(1, 2), ERASE(0, 2), DELIVER(0, -1);

        final int elements;
        final int messages;

        Kind(int elements, int messages) {
            this.elements = elements;
            this.messages = messages;
        }
    }

    private record Call(Kind kind, String name, int refusal, ToIntFunction<SideTreeText> make) {
    }

    private final Situation at;
    private final List<Call> refused = new ArrayList<>();
    private final List<Call> taken = new ArrayList<>();

    private RefusalTest(Situation at) {
        this.at = at;
        for (int replica = 0; replica < 3; replica++) {
            addCallsOf(replica);
        }
        for (int replica : NO_REPLICAS) {
            addCallsWithoutReplica(replica);
        }
    }

    public static void main(String[] args) {
        for (Situation situation : Situation.all()) {
            Check.test("Terms, the refusals: " + situation.name, new RefusalTest(situation)::all);
        }
        Check.end();
    }

    private void all() {
        at.checkCounts();
        refusedCallsAnswerTheFirstRefusalAndChangeNothing();
        refusedCallsChangeNothingThatShowsLater();
        callsWithinTheBoundsAreTaken();
        everyQuestionWithoutReplicaIsBad();
        questionsChangeNothing();
    }

    private void addCallsOf(int r) {
        for (int i : placesAround(at.lengths[r])) {
            int character = i;
            add(Kind.INSERT, r, i, insertRefusal(r, i), x -> x.insert(r, i, character));
            add(Kind.ERASE, r, i, eraseRefusal(r, i), x -> x.erase(r, i));
        }
        for (int k : placesAround(at.trays[r])) {
            int refusal = k < 0 || k >= at.trays[r] ? BAD : TAKEN;
            add(Kind.DELIVER, r, k, refusal, x -> x.deliver(r, k));
        }
    }

    private void addCallsWithoutReplica(int r) {
        for (int i : SOME_PLACES) {
            add(Kind.INSERT, r, i, BAD, x -> x.insert(r, i, 7));
            add(Kind.ERASE, r, i, BAD, x -> x.erase(r, i));
            add(Kind.DELIVER, r, i, BAD, x -> x.deliver(r, i));
        }
    }

    private void add(Kind kind, int replica, int place, int refusal, ToIntFunction<SideTreeText> make) {
        String name = at.name + ": " + kind + "(" + replica + ", " + place + ")";
        (refusal == TAKEN ? taken : refused).add(new Call(kind, name, refusal, make));
    }

    private static Set<Integer> placesAround(int count) {
        return new TreeSet<>(List.of(MIN, MIN + 1, -2, -1, 0, count - 1, count, count + 1, count + 2,
                29, 30, 31, 49, 50, 51, MAX - 1, MAX));
    }

    private int insertRefusal(int r, int i) {
        if (i < 0 || i > at.lengths[r]) {
            return BAD;
        }
        return at.made == 30 || at.hasFullTrayBeside(r) ? FULL : TAKEN;
    }

    private int eraseRefusal(int r, int i) {
        if (i < 0 || i >= at.lengths[r]) {
            return BAD;
        }
        return at.hasFullTrayBeside(r) ? FULL : TAKEN;
    }

    private void refusedCallsAnswerTheFirstRefusalAndChangeNothing() {
        Check.due(at.name + ": within 512 calls", at.run.size() + 2 * Questions.PART + 1 <= Run.MOST_CALLS, true);
        for (Call call : refused) {
            for (List<Questions.Question> part : PARTS) {
                SideTreeText x = at.run.play();
                int[] before = Questions.answers(x, part);
                Check.due(call.name(), call.make().applyAsInt(x), call.refusal());
                Questions.checkSame("after " + call.name(), part, Questions.answers(x, part), before);
            }
        }
    }

    /** Which messages wait is not told: it shows when all that is on its way has been delivered. */
    private void refusedCallsChangeNothingThatShowsLater() {
        for (List<Questions.Question> part : PARTS) {
            SideTreeText plain = at.run.play();
            deliverAll(plain);
            int[] want = Questions.answers(plain, part);
            for (Call call : refused) {
                SideTreeText x = at.run.play();
                call.make().applyAsInt(x);
                deliverAll(x);
                Questions.checkSame("later than " + call.name(), part, Questions.answers(x, part), want);
            }
        }
    }

    private void deliverAll(SideTreeText x) {
        for (int r = 0; r < 3; r++) {
            for (int k = 0; k < at.trays[r]; k++) {
                x.deliver(r, 0);
            }
        }
    }

    private void callsWithinTheBoundsAreTaken() {
        for (Call call : taken) {
            SideTreeText x = at.run.play();
            Check.due(call.name() + " is taken", call.make().applyAsInt(x) >= 0, true);
            int messages = at.trays[0] + at.trays[1] + at.trays[2] + call.kind().messages;
            Check.due(call.name() + ": messages", x.tray(0) + x.tray(1) + x.tray(2), messages);
            Check.due(call.name() + ": made", x.made(), at.made + call.kind().elements);
        }
    }

    private void everyQuestionWithoutReplicaIsBad() {
        for (int r : NO_REPLICAS) {
            SideTreeText x = at.run.play();
            String of = at.name + ": (" + r + ") ";
            Check.due(of + "length", x.length(r), BAD);
            Check.due(of + "known", x.known(r), BAD);
            Check.due(of + "tray", x.tray(r), BAD);
            Check.due(of + "waiting", x.waiting(r), BAD);
            for (int i : new int[] {MIN, -1, 0, 29, 30, 49, 50, MAX}) {
                Check.due(of + "shown " + i, x.shown(r, i), BAD);
                Check.due(of + "ordered " + i, x.ordered(r, i), BAD);
                Check.due(of + "state " + i, x.state(r, i), BAD);
                Check.due(of + "message " + i, x.message(r, i), BAD);
            }
            for (int other : new int[] {0, 1, 2, r, MIN, -1, 3, MAX}) {
                Check.due(of + "differ with " + other, x.differ(r, other), BAD);
                Check.due(of + "differ of " + other, x.differ(other, r), BAD);
            }
        }
    }

    private void questionsChangeNothing() {
        for (List<Questions.Question> part : PARTS) {
            SideTreeText x = at.run.play();
            int[] once = Questions.answers(x, part);
            Questions.checkSame(at.name + ": asked again", part, Questions.answers(x, part), once);
        }
    }
}
