import java.util.ArrayList;
import java.util.Arrays;
import java.util.List;
import java.util.function.ToIntFunction;

/** Every question that an object can be asked, from one below to one above what can be, and at the ends of int. */
final class Questions {
    /** So many at a time can be asked twice of an object that the longest run led to its state. */
    static final int PART = 120;

    record Question(String name, ToIntFunction<SideTreeText> ask) {
    }

    private final List<Question> all = new ArrayList<>();

    private Questions() {
        for (int r = 0; r < 3; r++) {
            addOf(r);
        }
        for (int element : around(30)) {
            add("depth(" + element + ")", x -> x.depth(element));
            for (int what = -1; what <= 5; what++) {
                int w = what;
                add("about(" + element + ", " + w + ")", x -> x.about(element, w));
            }
        }
        add("made()", SideTreeText::made);
    }

    private void addOf(int r) {
        add("length(" + r + ")", x -> x.length(r));
        add("known(" + r + ")", x -> x.known(r));
        add("tray(" + r + ")", x -> x.tray(r));
        add("waiting(" + r + ")", x -> x.waiting(r));
        for (int i : around(30)) {
            add("shown(" + r + ", " + i + ")", x -> x.shown(r, i));
            add("ordered(" + r + ", " + i + ")", x -> x.ordered(r, i));
            add("state(" + r + ", " + i + ")", x -> x.state(r, i));
        }
        for (int k : around(50)) {
            add("message(" + r + ", " + k + ")", x -> x.message(r, k));
        }
        for (int other = 0; other < 3; other++) {
            int o = other;
            add("differ(" + r + ", " + o + ")", x -> x.differ(r, o));
        }
    }

    private void add(String name, ToIntFunction<SideTreeText> ask) {
        all.add(new Question(name, ask));
    }

    private static List<Integer> around(int count) {
        List<Integer> row = new ArrayList<>(List.of(Integer.MIN_VALUE, Integer.MAX_VALUE));
        for (int i = -1; i <= count; i++) {
            row.add(i);
        }
        return row;
    }

    static List<List<Question>> parts() {
        List<Question> all = new Questions().all;
        List<List<Question>> parts = new ArrayList<>();
        for (int from = 0; from < all.size(); from += PART) {
            parts.add(all.subList(from, Math.min(from + PART, all.size())));
        }
        return parts;
    }

    static int[] answers(SideTreeText x, List<Question> part) {
        int[] row = new int[part.size()];
        for (int n = 0; n < row.length; n++) {
            row[n] = part.get(n).ask().applyAsInt(x);
        }
        return row;
    }

    static void checkSame(String after, List<Question> part, int[] got, int[] want) {
        if (Arrays.equals(got, want)) {
            Check.due(after, true, true);
            return;
        }
        for (int n = 0; n < want.length; n++) {
            Check.due(after + ": " + part.get(n).name(), got[n], want[n]);
        }
    }
}
