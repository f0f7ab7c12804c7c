import java.util.ArrayList;
import java.util.List;

/** A state at one of the document's boundaries: the calls that lead there, and its counts as the document has them. */
final class Situation {
    final String name;
    final Run run;
    final int made;
    int[] lengths = {0, 0, 0};
    int[] known = {0, 0, 0};
    int[] trays = {0, 0, 0};
    int[] waiting = {0, 0, 0};

    private Situation(String name, Run run, int made) {
        this.name = name;
        this.run = run;
        this.made = made;
    }

    private Situation lengths(int zero, int one, int two) {
        lengths = new int[] {zero, one, two};
        return this;
    }

    private Situation known(int zero, int one, int two) {
        known = new int[] {zero, one, two};
        return this;
    }

    private Situation trays(int zero, int one, int two) {
        trays = new int[] {zero, one, two};
        return this;
    }

    private Situation waiting(int zero, int one, int two) {
        waiting = new int[] {zero, one, two};
        return this;
    }

    static Situation nothing() {
        return new Situation("a new object", new Run(), 0);
    }

    static Situation oneElement() {
        return new Situation("one element", new Run().type(0, 1), 1)
                .lengths(1, 0, 0).known(1, 0, 0).trays(0, 1, 1);
    }

    static Situation twoErased() {
        return new Situation("two made and erased", new Run().type(1, 2).eraseFirst(1, 2), 2)
                .known(0, 2, 0).trays(4, 0, 4);
    }

    static Situation oneWaits() {
        return new Situation("one message waits", new Run().type(2, 2).deliver(0, 1), 2)
                .lengths(0, 0, 2).known(0, 0, 2).trays(1, 2, 0).waiting(1, 0, 0);
    }

    static Situation made29() {
        return new Situation("29 made by all", new Run().type(0, 10).type(1, 10).type(2, 9), 29)
                .lengths(10, 10, 9).known(10, 10, 9).trays(19, 19, 20);
    }

    static Situation made30() {
        return new Situation("30 made by all", new Run().type(0, 10).type(1, 10).type(2, 10), 30)
                .lengths(10, 10, 10).known(10, 10, 10).trays(20, 20, 20);
    }

    static Situation made30ByOne() {
        return new Situation("30 made by one", new Run().type(2, 30), 30)
                .lengths(0, 0, 30).known(0, 0, 30).trays(30, 30, 0);
    }

    static Situation made30AndAllErased() {
        Run run = new Run().type(0, 30).deliverFirst(1, 30).deliverFirst(2, 30);
        run.eraseFirst(0, 30).deliverFirst(1, 30).deliverFirst(2, 30);
        return new Situation("30 made and erased everywhere", run, 30).known(30, 30, 30);
    }

    /**
     * One types 20 and erases them, another one gets the 20 and erases some too: the third one's tray
     * alone comes near to 50 messages, and ten more elements could be made.
     */
    static Situation slowTray(int slow, int messages) {
        int typist = (slow + 1) % 3;
        int helper = (slow + 2) % 3;
        int byHelper = messages - 40;
        Run run = new Run().type(typist, 20).deliverFirst(helper, 20);
        run.eraseFirst(typist, 20).eraseFirst(helper, byHelper);
        Situation s = new Situation("tray of " + slow + " has " + messages, run, 20);
        s.lengths[helper] = 20 - byHelper;
        s.known[typist] = 20;
        s.known[helper] = 20;
        s.trays[typist] = byHelper;
        s.trays[helper] = 20;
        s.trays[slow] = messages;
        return s;
    }

    static Situation bothTrays50() {
        return new Situation("both other trays have 50", new Run().type(1, 26).eraseFirst(1, 24), 26)
                .lengths(0, 2, 0).known(0, 26, 0).trays(50, 0, 50);
    }

    static Situation bothTrays50AndMade30() {
        return new Situation("30 made, both other trays have 50", new Run().type(0, 30).eraseFirst(0, 20), 30)
                .lengths(10, 0, 0).known(30, 0, 0).trays(0, 50, 50);
    }

    /** Both others erase all 30, and replica 2 gets everything but the making on which all of it hangs. */
    static Situation most89Wait() {
        Run run = new Run().type(0, 30).deliverFirst(1, 30);
        for (int i = 0; i < 29; i++) {
            run.deliver(2, 1);
        }
        for (int i = 0; i < 30; i++) {
            run.erase(0, 0).erase(1, 0).deliver(2, 1).deliver(2, 1);
        }
        return new Situation("89 messages wait", run, 30)
                .known(30, 30, 0).trays(30, 30, 1).waiting(0, 0, 89);
    }

    static List<Situation> all() {
        List<Situation> all = new ArrayList<>(List.of(nothing(), oneElement(), twoErased(), oneWaits(),
                made29(), made30(), made30ByOne(), made30AndAllErased()));
        for (int slow = 0; slow < 3; slow++) {
            all.add(slowTray(slow, 49));
            all.add(slowTray(slow, 50));
        }
        all.addAll(List.of(bothTrays50(), bothTrays50AndMade30(), most89Wait()));
        return all;
    }

    boolean hasFullTrayBeside(int replica) {
        return trays[(replica + 1) % 3] == 50 || trays[(replica + 2) % 3] == 50;
    }

    void checkCounts() {
        SideTreeText x = run.play();
        Check.due(name + ": made()", x.made(), made);
        for (int r = 0; r < 3; r++) {
            Check.due(name + ": length(" + r + ")", x.length(r), lengths[r]);
            Check.due(name + ": known(" + r + ")", x.known(r), known[r]);
            Check.due(name + ": tray(" + r + ")", x.tray(r), trays[r]);
            Check.due(name + ": waiting(" + r + ")", x.waiting(r), waiting[r]);
        }
    }
}
