/** One text that three replicas edit at the same time; the document's promises tell each call. */
public final class SideTreeText {
    public static final int BAD = -1;
    public static final int FULL = -2;
    public static final int NONE = -3;

    private static final int REPLICAS = 3;
    private static final int MOST_ELEMENTS = 30;
    private static final int TRAY_ROOM = 50;

    // A replica erases an element at most once itself, so no more than 30 makings
    // and 30 erasings of each of the two others ever come to it.
    private static final int WAITING_ROOM = 3 * MOST_ELEMENTS;

    // The document tells the root (as a parent) and the end (as a right origin) by the same number.
    private static final int EDGE = -1;

    private static final int LEFT = 0;
    private static final int RIGHT = 1;

    private static final int UNKNOWN = 0;
    private static final int KNOWN = 1;
    private static final int ERASED = 2;

    private static final int FIRST_ERASING = -10;

    private final Tree tree;
    private final Replica[] replicas;

    public SideTreeText() {
        tree = new Tree();
        replicas = new Replica[REPLICAS];
        for (int r = 0; r < REPLICAS; r++) {
            replicas[r] = new Replica();
        }
    }

    public int insert(int replica, int i, int character) {
        if (!isReplica(replica)) {
            return BAD;
        }
        Replica here = replicas[replica];
        if (i < 0 || i > countMarked(here, KNOWN)) {
            return BAD;
        }
        if (tree.isFull() || isOtherTrayFull(replica)) {
            return FULL;
        }
        int element = makeBehind(replica, i == 0 ? EDGE : shownAt(here, i - 1), character);
        here.marks[element] = KNOWN;
        send(replica, element);
        return element;
    }

    public int erase(int replica, int i) {
        if (!isReplica(replica)) {
            return BAD;
        }
        Replica here = replicas[replica];
        int element = shownAt(here, i);
        if (element == NONE) {
            return BAD;
        }
        if (isOtherTrayFull(replica)) {
            return FULL;
        }
        here.marks[element] = ERASED;
        send(replica, FIRST_ERASING - element);
        return element;
    }

    public int deliver(int replica, int k) {
        if (!isReplica(replica)) {
            return BAD;
        }
        Replica here = replicas[replica];
        if (!here.inTray.has(k)) {
            return BAD;
        }
        int message = here.inTray.take(k);
        if (!isReady(here, message)) {
            here.inWait.add(message);
            return 0;
        }
        takeEffect(here, message);
        return 1 + wakeWaiting(here);
    }

    public int length(int replica) {
        return isReplica(replica) ? countMarked(replicas[replica], KNOWN) : BAD;
    }

    public int shown(int replica, int i) {
        return isReplica(replica) ? shownAt(replicas[replica], i) : BAD;
    }

    public int ordered(int replica, int i) {
        return isReplica(replica) ? orderedAt(replicas[replica], i) : BAD;
    }

    public int known(int replica) {
        if (!isReplica(replica)) {
            return BAD;
        }
        Replica here = replicas[replica];
        return countMarked(here, KNOWN) + countMarked(here, ERASED);
    }

    public int state(int replica, int element) {
        if (!isReplica(replica)) {
            return BAD;
        }
        return tree.has(element) ? replicas[replica].marks[element] : UNKNOWN;
    }

    public int tray(int replica) {
        return isReplica(replica) ? replicas[replica].inTray.size : BAD;
    }

    public int waiting(int replica) {
        return isReplica(replica) ? replicas[replica].inWait.size : BAD;
    }

    public int message(int replica, int k) {
        if (!isReplica(replica)) {
            return BAD;
        }
        Messages row = replicas[replica].inTray;
        return row.has(k) ? row.codes[k] : NONE;
    }

    public int made() {
        return tree.size;
    }

    public int about(int element, int what) {
        if (!tree.has(element)) {
            return NONE;
        }
        switch (what) {
            case 0:
                return tree.makers[element];
            case 1:
                return tree.characters[element];
            case 2:
                return tree.parents[element];
            case 3:
                return tree.sides[element];
            case 4:
                return tree.rightOrigins[element];
            default:
                return NONE;
        }
    }

    public int depth(int element) {
        return tree.has(element) ? tree.countAbove(element) : NONE;
    }

    public int differ(int replica, int other) {
        if (!isReplica(replica) || !isReplica(other)) {
            return BAD;
        }
        for (int i = 0; i < tree.size; i++) {
            // A text that has ended shows NONE, which no element of the other one equals.
            if (shownAt(replicas[replica], i) != shownAt(replicas[other], i)) {
                return i;
            }
        }
        return NONE;
    }

    private static boolean isReplica(int replica) {
        return replica >= 0 && replica < REPLICAS;
    }

    private int countMarked(Replica here, int mark) {
        int count = 0;
        for (int e = 0; e < tree.size; e++) {
            if (here.marks[e] == mark) {
                count++;
            }
        }
        return count;
    }

    private int shownAt(Replica here, int i) {
        int left = i;
        for (int p = 0; p < tree.size; p++) {
            int element = tree.order[p];
            if (here.marks[element] == KNOWN) {
                if (left == 0) {
                    return element;
                }
                left--;
            }
        }
        return NONE;
    }

    private int orderedAt(Replica here, int i) {
        int left = i;
        for (int p = 0; p < tree.size; p++) {
            int element = tree.order[p];
            if (here.marks[element] != UNKNOWN) {
                if (left == 0) {
                    return element;
                }
                left--;
            }
        }
        return NONE;
    }

    private int makeBehind(int replica, int before, int character) {
        Replica here = replicas[replica];
        int behind = nextBehind(here, before);
        if (hasRightChild(here, before)) {
            return tree.add(replica, character, behind, LEFT, behind);
        }
        return tree.add(replica, character, before, RIGHT, behind);
    }

    private int nextBehind(Replica here, int element) {
        for (int p = tree.placeBehind(element); p < tree.size; p++) {
            if (here.marks[tree.order[p]] != UNKNOWN) {
                return tree.order[p];
            }
        }
        return EDGE;
    }

    private boolean hasRightChild(Replica here, int parent) {
        for (int e = 0; e < tree.size; e++) {
            if (here.marks[e] != UNKNOWN && tree.parents[e] == parent && tree.sides[e] == RIGHT) {
                return true;
            }
        }
        return false;
    }

    private boolean isOtherTrayFull(int replica) {
        for (int r = 0; r < REPLICAS; r++) {
            if (r != replica && replicas[r].inTray.isFull()) {
                return true;
            }
        }
        return false;
    }

    private void send(int replica, int message) {
        for (int r = 0; r < REPLICAS; r++) {
            if (r != replica) {
                replicas[r].inTray.add(message);
            }
        }
    }

    private static boolean isErasing(int message) {
        return message <= FIRST_ERASING;
    }

    private boolean isReady(Replica here, int message) {
        if (isErasing(message)) {
            return here.isSettled(FIRST_ERASING - message);
        }
        return here.isSettled(tree.parents[message]) && here.isSettled(tree.rightOrigins[message]);
    }

    private static void takeEffect(Replica here, int message) {
        if (isErasing(message)) {
            here.marks[FIRST_ERASING - message] = ERASED;
        } else {
            here.marks[message] = KNOWN;
        }
    }

    private int wakeWaiting(Replica here) {
        int most = here.inWait.size;
        for (int woken = 0; woken < most; woken++) {
            int k = firstReady(here);
            if (k == NONE) {
                return woken;
            }
            takeEffect(here, here.inWait.take(k));
        }
        return most;
    }

    private int firstReady(Replica here) {
        for (int k = 0; k < here.inWait.size; k++) {
            if (isReady(here, here.inWait.codes[k])) {
                return k;
            }
        }
        return NONE;
    }

    /**
     * All elements that were made, in one order for every replica: how two of them stand
     * depends on parents, sides, makers and right origins alone, which never change and are
     * known wherever the element is. So a replica's order is this one without what it does not know.
     */
    private static final class Tree {
        final int[] makers = new int[MOST_ELEMENTS];
        final int[] characters = new int[MOST_ELEMENTS];
        final int[] parents = new int[MOST_ELEMENTS];
        final int[] sides = new int[MOST_ELEMENTS];
        final int[] rightOrigins = new int[MOST_ELEMENTS];
        final int[] order = new int[MOST_ELEMENTS];
        int size = 0;

        boolean has(int element) {
            return element >= 0 && element < size;
        }

        boolean isFull() {
            return size >= MOST_ELEMENTS;
        }

        int add(int maker, int character, int parent, int side, int rightOrigin) {
            int element = size;
            makers[element] = maker;
            characters[element] = character;
            parents[element] = parent;
            sides[element] = side;
            rightOrigins[element] = rightOrigin;
            int place = side == LEFT ? leftPlaceFor(element) : rightPlaceFor(element);
            for (int p = size; p > place; p--) {
                order[p] = order[p - 1];
            }
            order[place] = element;
            size++;
            return element;
        }

        int countAbove(int element) {
            int above = 0;
            int e = parents[element];
            // A parent is older than its child, so the way up is shorter than the tree is large.
            while (e != EDGE && above < size) {
                above++;
                e = parents[e];
            }
            return above;
        }

        int placeBehind(int element) {
            return element == EDGE ? 0 : placeOf(element) + 1;
        }

        // The end gets the place behind all elements, as the document counts it later than them.
        private int placeOf(int element) {
            for (int p = 0; p < size; p++) {
                if (order[p] == element) {
                    return p;
                }
            }
            return size;
        }

        private int leftPlaceFor(int element) {
            int place = placeOf(parents[element]);
            while (place > 0 && isBeforeBranchOf(element, order[place - 1])) {
                place--;
            }
            return place;
        }

        private int rightPlaceFor(int element) {
            int place = placeBehind(parents[element]);
            while (place < size && isBehindBranchOf(element, order[place])) {
                place++;
            }
            return place;
        }

        private boolean isBeforeBranchOf(int element, int other) {
            int sibling = branchOf(other, parents[element]);
            return sibling != NONE && isSiblingBefore(element, sibling);
        }

        private boolean isBehindBranchOf(int element, int other) {
            int sibling = branchOf(other, parents[element]);
            return sibling != NONE && isSiblingBefore(sibling, element);
        }

        /** The child of the parent that the element is or hangs below; NONE when there is none. */
        private int branchOf(int element, int parent) {
            int e = element;
            for (int steps = 0; steps < size && e != EDGE; steps++) {
                if (parents[e] == parent) {
                    return e;
                }
                e = parents[e];
            }
            return NONE;
        }

        private boolean isSiblingBefore(int one, int other) {
            if (sides[one] == RIGHT) {
                int onesPlace = placeOf(rightOrigins[one]);
                int othersPlace = placeOf(rightOrigins[other]);
                if (onesPlace != othersPlace) {
                    return onesPlace > othersPlace;
                }
            }
            if (makers[one] != makers[other]) {
                return makers[one] < makers[other];
            }
            return one < other;
        }
    }

    /** What one replica knows, and the messages that are on their way to it. */
    private static final class Replica {
        final int[] marks = new int[MOST_ELEMENTS];
        final Messages inTray = new Messages(TRAY_ROOM);
        final Messages inWait = new Messages(WAITING_ROOM);

        // The root and the end are there from the start.
        boolean isSettled(int element) {
            return element == EDGE || marks[element] != UNKNOWN;
        }
    }

    /** A row of messages, each held as the number by which the document tells it. */
    private static final class Messages {
        final int[] codes;
        int size = 0;

        Messages(int room) {
            codes = new int[room];
        }

        boolean has(int k) {
            return k >= 0 && k < size;
        }

        boolean isFull() {
            return size >= codes.length;
        }

        void add(int code) {
            if (!isFull()) {
                codes[size] = code;
                size++;
            }
        }

        int take(int k) {
            int code = codes[k];
            size--;
            for (int j = k; j < size; j++) {
                codes[j] = codes[j + 1];
            }
            return code;
        }
    }
}
