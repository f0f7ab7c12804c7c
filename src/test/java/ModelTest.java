import java.util.Random;

/** Long runs of mixed calls, each answer held against the plain model's; the seeds are fixed. */
public final class ModelTest {
    private static final int RUNS = 1500;
    private static final int CALLS = 512;
    private static final int[] WILD = {-1, -3, 3, 30, 50, 51, Integer.MIN_VALUE, Integer.MAX_VALUE};

    private final Random random;
    private final SideTreeText text = new SideTreeText();
    private final PlainModel model = new PlainModel();
    private final int[] weights;
    private final int slow;

    private ModelTest(long seed) {
        random = new Random(seed);
        // How often a run inserts, erases, delivers and asks differs, so that some runs fill the trays
        // and others bring all replicas together.
        weights = new int[] {1 + random.nextInt(6), random.nextInt(6), random.nextInt(10), 6};
        // In half of the runs one replica is never delivered to, so that its tray fills up first.
        slow = random.nextInt(6);
    }

    public static void main(String[] args) {
        Check.test("All promises: mixed calls answer as the plain model does", ModelTest::runs);
        Check.end();
    }

    private static void runs() {
        for (long seed = 0; seed < RUNS && Check.wrongSoFar() == 0; seed++) {
            ModelTest run = new ModelTest(seed);
            for (int n = 0; n < CALLS && Check.wrongSoFar() == 0; n++) {
                run.call("seed " + seed + " call " + n + ": ");
            }
        }
    }

    private void call(String at) {
        int r = replica();
        int pick = random.nextInt(weights[0] + weights[1] + weights[2] + weights[3]);
        if (pick < weights[0]) {
            int i = place(model.length(r) + 1);
            int character = random.nextInt();
            Check.due(at + "insert(" + r + ", " + i + ")", text.insert(r, i, character), model.insert(r, i, character));
        } else if (pick < weights[0] + weights[1]) {
            int i = place(model.length(r));
            Check.due(at + "erase(" + r + ", " + i + ")", text.erase(r, i), model.erase(r, i));
        } else if (pick < weights[0] + weights[1] + weights[2]) {
            int to = r == slow ? (r + 1) % 3 : r;
            int k = place(model.tray(to));
            Check.due(at + "deliver(" + to + ", " + k + ")", text.deliver(to, k), model.deliver(to, k));
        } else {
            ask(at, r);
        }
    }

    private void ask(String at, int r) {
        int i = place(31);
        String with = "(" + r + ", " + i + ")";
        switch (random.nextInt(12)) {
            case 0 -> Check.due(at + "length(" + r + ")", text.length(r), model.length(r));
            case 1 -> Check.due(at + "shown" + with, text.shown(r, i), model.shown(r, i));
            case 2 -> Check.due(at + "ordered" + with, text.ordered(r, i), model.ordered(r, i));
            case 3 -> Check.due(at + "known(" + r + ")", text.known(r), model.known(r));
            case 4 -> Check.due(at + "state" + with, text.state(r, i), model.state(r, i));
            case 5 -> Check.due(at + "tray(" + r + ")", text.tray(r), model.tray(r));
            case 6 -> Check.due(at + "waiting(" + r + ")", text.waiting(r), model.waiting(r));
            case 7 -> askMessage(at, r);
            case 8 -> Check.due(at + "made()", text.made(), model.made());
            case 9 -> askAbout(at, i);
            case 10 -> Check.due(at + "depth(" + i + ")", text.depth(i), model.depth(i));
            default -> askDiffer(at, r);
        }
    }

    private void askMessage(String at, int r) {
        int k = place(51);
        Check.due(at + "message(" + r + ", " + k + ")", text.message(r, k), model.message(r, k));
    }

    private void askAbout(String at, int element) {
        int what = place(6);
        Check.due(at + "about(" + element + ", " + what + ")", text.about(element, what), model.about(element, what));
    }

    private void askDiffer(String at, int r) {
        int other = replica();
        Check.due(at + "differ(" + r + ", " + other + ")", text.differ(r, other), model.differ(r, other));
    }

    private int replica() {
        return random.nextInt(40) == 0 ? wild() : random.nextInt(3);
    }

    private int place(int bound) {
        return bound <= 0 || random.nextInt(30) == 0 ? wild() : random.nextInt(bound);
    }

    private int wild() {
        return WILD[random.nextInt(WILD.length)];
    }
}
