import java.util.ArrayList;
import java.util.HashMap;
import java.util.List;
import java.util.Map;

/**
 * The document once more, written apart from the class and for plainness alone: each replica
 * builds its own order by walking its own tree, one known element after the other.
 */
final class PlainModel {
    private static final int BAD = -1;
    private static final int FULL = -2;
    private static final int NONE = -3;

    private record Element(int number, int maker, int character, int parent, int side, int origin) {
    }

    private record Message(boolean erases, Element element) {
        int code() {
            return erases ? -10 - element.number() : element.number();
        }
    }

    private static final class Place {
        final List<Element> known = new ArrayList<>();
        final List<Element> erased = new ArrayList<>();
        final List<Message> tray = new ArrayList<>();
        final List<Message> waiting = new ArrayList<>();
        List<Element> order = new ArrayList<>();

        boolean knows(int number) {
            return number == -1 || known.stream().anyMatch(e -> e.number() == number);
        }

        List<Element> text() {
            List<Element> row = new ArrayList<>(order);
            row.removeAll(erased);
            return row;
        }

        void learn(Element element) {
            known.add(element);
            order = orderOf(known);
        }
    }

    private final List<Element> all = new ArrayList<>();
    private final List<Place> places = List.of(new Place(), new Place(), new Place());

    /** A right origin is older than its element, so the order of the older ones places it. */
    private static List<Element> orderOf(List<Element> known) {
        List<Element> byAge = new ArrayList<>(known);
        byAge.sort((x, y) -> Integer.compare(x.number(), y.number()));
        List<Element> order = new ArrayList<>();
        for (int n = 1; n <= byAge.size(); n++) {
            Map<Integer, Integer> ranks = new HashMap<>();
            for (int i = 0; i < order.size(); i++) {
                ranks.put(order.get(i).number(), i);
            }
            ranks.put(-1, Integer.MAX_VALUE);
            List<Element> next = new ArrayList<>();
            walk(-1, 1, byAge.subList(0, n), ranks, next);
            order = next;
        }
        return order;
    }

    private static void walk(int parent, int side, List<Element> tree, Map<Integer, Integer> ranks, List<Element> to) {
        List<Element> children = new ArrayList<>();
        for (Element e : tree) {
            if (e.parent() == parent && e.side() == side) {
                children.add(e);
            }
        }
        children.sort((x, y) -> {
            if (side == 1 && x.origin() != y.origin()) {
                return Integer.compare(ranks.get(y.origin()), ranks.get(x.origin()));
            }
            return x.maker() != y.maker() ? x.maker() - y.maker() : x.number() - y.number();
        });
        for (Element child : children) {
            walk(child.number(), 0, tree, ranks, to);
            to.add(child);
            walk(child.number(), 1, tree, ranks, to);
        }
    }

    private boolean isNoReplica(int replica) {
        return replica < 0 || replica > 2;
    }

    private boolean otherTrayIsFull(int replica) {
        for (int r = 0; r < 3; r++) {
            if (r != replica && places.get(r).tray.size() == 50) {
                return true;
            }
        }
        return false;
    }

    private void send(int replica, Message message) {
        for (int r = 0; r < 3; r++) {
            if (r != replica) {
                places.get(r).tray.add(message);
            }
        }
    }

    int insert(int replica, int i, int character) {
        if (isNoReplica(replica) || i < 0 || i > places.get(replica).text().size()) {
            return BAD;
        }
        if (all.size() == 30 || otherTrayIsFull(replica)) {
            return FULL;
        }
        Place here = places.get(replica);
        Element a = i == 0 ? null : here.text().get(i - 1);
        int behind = a == null ? 0 : here.order.indexOf(a) + 1;
        int b = behind < here.order.size() ? here.order.get(behind).number() : -1;
        int aNumber = a == null ? -1 : a.number();
        boolean taken = here.known.stream().anyMatch(e -> e.parent() == aNumber && e.side() == 1);
        Element made = taken
                ? new Element(all.size(), replica, character, b, 0, b)
                : new Element(all.size(), replica, character, aNumber, 1, b);
        all.add(made);
        here.learn(made);
        send(replica, new Message(false, made));
        return made.number();
    }

    int erase(int replica, int i) {
        if (isNoReplica(replica) || i < 0 || i >= places.get(replica).text().size()) {
            return BAD;
        }
        if (otherTrayIsFull(replica)) {
            return FULL;
        }
        Element gone = places.get(replica).text().get(i);
        places.get(replica).erased.add(gone);
        send(replica, new Message(true, gone));
        return gone.number();
    }

    int deliver(int replica, int k) {
        if (isNoReplica(replica) || k < 0 || k >= places.get(replica).tray.size()) {
            return BAD;
        }
        Place here = places.get(replica);
        Message message = here.tray.remove(k);
        if (!ready(here, message)) {
            here.waiting.add(message);
            return 0;
        }
        apply(here, message);
        int effects = 1;
        for (int w = 0; w < here.waiting.size(); w++) {
            if (ready(here, here.waiting.get(w))) {
                apply(here, here.waiting.remove(w));
                effects++;
                w = -1;
            }
        }
        return effects;
    }

    private boolean ready(Place here, Message message) {
        Element e = message.element();
        return message.erases() ? here.knows(e.number()) : here.knows(e.parent()) && here.knows(e.origin());
    }

    private void apply(Place here, Message message) {
        if (message.erases()) {
            here.erased.add(message.element());
        } else {
            here.learn(message.element());
        }
    }

    int length(int replica) {
        return isNoReplica(replica) ? BAD : places.get(replica).text().size();
    }

    private static int numberAt(List<Element> row, int i) {
        return i < 0 || i >= row.size() ? NONE : row.get(i).number();
    }

    int shown(int replica, int i) {
        return isNoReplica(replica) ? BAD : numberAt(places.get(replica).text(), i);
    }

    int ordered(int replica, int i) {
        return isNoReplica(replica) ? BAD : numberAt(places.get(replica).order, i);
    }

    int known(int replica) {
        return isNoReplica(replica) ? BAD : places.get(replica).known.size();
    }

    int state(int replica, int element) {
        if (isNoReplica(replica)) {
            return BAD;
        }
        if (element < 0 || element >= all.size() || !places.get(replica).knows(element)) {
            return 0;
        }
        return places.get(replica).erased.contains(all.get(element)) ? 2 : 1;
    }

    int tray(int replica) {
        return isNoReplica(replica) ? BAD : places.get(replica).tray.size();
    }

    int waiting(int replica) {
        return isNoReplica(replica) ? BAD : places.get(replica).waiting.size();
    }

    int message(int replica, int k) {
        if (isNoReplica(replica)) {
            return BAD;
        }
        List<Message> tray = places.get(replica).tray;
        return k < 0 || k >= tray.size() ? NONE : tray.get(k).code();
    }

    int made() {
        return all.size();
    }

    int about(int element, int what) {
        if (element < 0 || element >= all.size() || what < 0 || what > 4) {
            return NONE;
        }
        Element e = all.get(element);
        return List.of(e.maker(), e.character(), e.parent(), e.side(), e.origin()).get(what);
    }

    int depth(int element) {
        if (element < 0 || element >= all.size()) {
            return NONE;
        }
        int parent = all.get(element).parent();
        return parent == -1 ? 0 : 1 + depth(parent);
    }

    int differ(int replica, int other) {
        if (isNoReplica(replica) || isNoReplica(other)) {
            return BAD;
        }
        List<Element> one = places.get(replica).text();
        List<Element> two = places.get(other).text();
        int i = 0;
        while (i < one.size() && i < two.size() && one.get(i) == two.get(i)) {
            i++;
        }
        return i == one.size() && i == two.size() ? NONE : i;
    }
}
