import java.util.ArrayList;
import java.util.List;

/** Reads whole texts, orders and trays out of an object, so that a test can name them in one row. */
final class Probe {
    private Probe() {
    }

    static List<Integer> text(SideTreeText x, int replica) {
        List<Integer> row = new ArrayList<>();
        for (int i = 0, length = x.length(replica); i < length; i++) {
            row.add(x.shown(replica, i));
        }
        return row;
    }

    static List<Integer> order(SideTreeText x, int replica) {
        List<Integer> row = new ArrayList<>();
        for (int i = 0, known = x.known(replica); i < known; i++) {
            row.add(x.ordered(replica, i));
        }
        return row;
    }

    static List<Integer> tray(SideTreeText x, int replica) {
        List<Integer> row = new ArrayList<>();
        for (int k = 0, tray = x.tray(replica); k < tray; k++) {
            row.add(x.message(replica, k));
        }
        return row;
    }

    /** Parent, side and right origin of an element. */
    static List<Integer> hang(SideTreeText x, int element) {
        return List.of(x.about(element, 2), x.about(element, 3), x.about(element, 4));
    }

    /** All that can be seen of an object. */
    static String picture(SideTreeText x) {
        StringBuilder all = new StringBuilder();
        for (int r = 0; r < 3; r++) {
            all.append(text(x, r)).append(order(x, r)).append(tray(x, r));
            all.append(' ').append(x.waiting(r)).append(' ');
        }
        for (int e = 0; e < x.made(); e++) {
            all.append(x.about(e, 0)).append(' ').append(x.about(e, 1)).append(hang(x, e));
        }
        return all.append(x.made()).toString();
    }

    static void deliverAll(SideTreeText x, int replica) {
        for (int left = x.tray(replica); left > 0; left--) {
            x.deliver(replica, 0);
        }
    }

    /** Delivers the message that makes this element, wherever it is in the tray. */
    static int deliverMaking(SideTreeText x, int replica, int element) {
        return x.deliver(replica, tray(x, replica).indexOf(element));
    }
}
