import java.util.ArrayList;
import java.util.List;
import java.util.function.ToIntFunction;

/**
 * Calls that can be played on new objects again and again: one object serves for 512 calls alone,
 * which is too few to ask it for every answer that it can give.
 */
final class Run {
    static final int MOST_CALLS = 512;

    private final List<ToIntFunction<SideTreeText>> calls = new ArrayList<>();

    Run insert(int replica, int i, int character) {
        calls.add(x -> x.insert(replica, i, character));
        return this;
    }

    Run erase(int replica, int i) {
        calls.add(x -> x.erase(replica, i));
        return this;
    }

    Run deliver(int replica, int k) {
        calls.add(x -> x.deliver(replica, k));
        return this;
    }

    /** Inserts n characters at a replica, each behind the one before, from the text's start on. */
    Run type(int replica, int n) {
        for (int i = 0; i < n; i++) {
            insert(replica, i, 100 + i);
        }
        return this;
    }

    Run eraseFirst(int replica, int n) {
        for (int i = 0; i < n; i++) {
            erase(replica, 0);
        }
        return this;
    }

    Run deliverFirst(int replica, int n) {
        for (int i = 0; i < n; i++) {
            deliver(replica, 0);
        }
        return this;
    }

    int size() {
        return calls.size();
    }

    SideTreeText play() {
        SideTreeText x = new SideTreeText();
        for (ToIntFunction<SideTreeText> call : calls) {
            call.applyAsInt(x);
        }
        return x;
    }
}
