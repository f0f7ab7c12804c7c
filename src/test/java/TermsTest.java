import java.util.List;

/** The section 'Terms': the order, where an insertion hangs, and how messages become ready. */
public final class TermsTest {
    private static final int END = -1;
    private static final int ROOT = -1;
    private static final int LEFT = 0;
    private static final int RIGHT = 1;

    public static void main(String[] args) {
        insertionHangsRightOfAWithoutRightChild();
        insertionHangsLeftOfNextOtherwise();
        insertionCountsErasedElementsAsNext();
        onlyKnownRightChildrenCount();
        rootChildrenGoByReplica();
        leftChildrenGoByReplica();
        rightChildrenWithSameOriginGoByReplica();
        rightChildrenWithEndAsOriginComeFirst();
        rightChildrenWithLaterOriginComeFirst();
        subtreesStayWhole();
        whatWasTypedInOneGoStandsTogether();
        makingWaitsForItsRightOrigin();
        makingWaitsForItsParent();
        erasingWaitsForItsElement();
        wakingGoesOnUntilNoneIsReady();
        replicasConvergeInAnyOrder();
        Check.end();
    }

    private static void insertionHangsRightOfAWithoutRightChild() {
        SideTreeText x = new SideTreeText();
        x.insert(0, 0, 'a');
        x.insert(0, 1, 'b');
        x.insert(0, 0, 'c');
        Check.due("first", Probe.hang(x, 0), List.of(ROOT, RIGHT, END));
        Check.due("behind the last", Probe.hang(x, 1), List.of(0, RIGHT, END));
        Check.due("before the first", Probe.hang(x, 2), List.of(0, LEFT, 0));
        x.insert(0, 1, 'd');
        Check.due("behind a left child", Probe.hang(x, 3), List.of(2, RIGHT, 0));
        Check.due("text", Probe.text(x, 0), List.of(2, 3, 0, 1));

        SideTreeText y = new SideTreeText();
        y.insert(0, 0, 'a');
        y.insert(0, 0, 'b');
        y.insert(0, 2, 'c');
        Check.due("a left child does not count", Probe.hang(y, 2), List.of(0, RIGHT, END));
    }

    private static void insertionHangsLeftOfNextOtherwise() {
        SideTreeText x = new SideTreeText();
        x.insert(0, 0, 'a');
        x.insert(0, 1, 'b');
        x.insert(0, 1, 'c');
        Check.due("between", Probe.hang(x, 2), List.of(1, LEFT, 1));
        x.insert(0, 1, 'd');
        Check.due("next is not a child of a", Probe.hang(x, 3), List.of(2, LEFT, 2));
        Check.due("text", Probe.text(x, 0), List.of(0, 3, 2, 1));
    }

    private static void insertionCountsErasedElementsAsNext() {
        SideTreeText x = new SideTreeText();
        x.insert(0, 0, 'a');
        x.insert(0, 1, 'b');
        x.insert(0, 2, 'c');
        x.erase(0, 1);
        x.insert(0, 1, 'd');
        Check.due("an erased right child counts", Probe.hang(x, 3), List.of(1, LEFT, 1));
        x.insert(0, 2, 'e');
        Check.due("behind a left child", Probe.hang(x, 4), List.of(3, RIGHT, 1));
        Check.due("order", Probe.order(x, 0), List.of(0, 3, 4, 1, 2));
        x.erase(0, 3);
        x.erase(0, 0);
        x.insert(0, 0, 'f');
        Check.due("before an erased first one", Probe.hang(x, 5), List.of(0, LEFT, 0));
        x.insert(0, 3, 'g');
        Check.due("before erased ones to the end", Probe.hang(x, 6), List.of(4, RIGHT, 1));
    }

    private static void onlyKnownRightChildrenCount() {
        SideTreeText x = new SideTreeText();
        x.insert(0, 0, 'a');
        x.insert(0, 1, 'b');
        x.deliver(1, 0);
        x.insert(1, 1, 'c');
        Check.due("b is not known there", Probe.hang(x, 2), List.of(0, RIGHT, END));
        x.insert(2, 0, 'd');
        Check.due("nothing is known there", Probe.hang(x, 3), List.of(ROOT, RIGHT, END));
    }

    private static void rootChildrenGoByReplica() {
        SideTreeText x = new SideTreeText();
        x.insert(2, 0, 'a');
        x.insert(1, 0, 'b');
        x.insert(0, 0, 'c');
        for (int r = 0; r < 3; r++) {
            Probe.deliverAll(x, r);
            Check.due("order of " + r, Probe.order(x, r), List.of(2, 1, 0));
        }
    }

    private static void leftChildrenGoByReplica() {
        SideTreeText x = new SideTreeText();
        x.insert(1, 0, 'p');
        Probe.deliverAll(x, 0);
        Probe.deliverAll(x, 2);
        x.insert(2, 0, 'a');
        x.insert(0, 0, 'b');
        x.insert(1, 0, 'c');
        for (int e = 1; e < 4; e++) {
            Check.due("hang of " + e, Probe.hang(x, e), List.of(0, LEFT, 0));
        }
        for (int r = 0; r < 3; r++) {
            Probe.deliverAll(x, r);
            Check.due("order of " + r, Probe.order(x, r), List.of(2, 3, 1, 0));
        }
    }

    private static void rightChildrenWithSameOriginGoByReplica() {
        SideTreeText x = new SideTreeText();
        x.insert(1, 0, 'p');
        Probe.deliverAll(x, 0);
        Probe.deliverAll(x, 2);
        x.insert(2, 1, 'a');
        x.insert(1, 1, 'b');
        x.insert(0, 1, 'c');
        for (int r = 0; r < 3; r++) {
            Probe.deliverAll(x, r);
            Check.due("order of " + r, Probe.order(x, r), List.of(0, 3, 2, 1));
        }
    }

    private static void rightChildrenWithEndAsOriginComeFirst() {
        SideTreeText x = new SideTreeText();
        x.insert(0, 0, 'a');
        x.insert(1, 0, 'd');
        Probe.deliverMaking(x, 0, 1);
        Probe.deliverMaking(x, 2, 0);
        x.insert(0, 1, 'f');
        x.insert(2, 1, 'e');
        Check.due("with an origin", Probe.hang(x, 2), List.of(0, RIGHT, 1));
        Check.due("with the end", Probe.hang(x, 3), List.of(0, RIGHT, END));
        for (int r = 0; r < 3; r++) {
            Probe.deliverAll(x, r);
            Check.due("order of " + r, Probe.order(x, r), List.of(0, 3, 2, 1));
        }
    }

    private static void rightChildrenWithLaterOriginComeFirst() {
        SideTreeText x = new SideTreeText();
        x.insert(2, 0, 'g');
        x.insert(1, 0, 'd');
        x.insert(0, 0, 'a');
        Probe.deliverMaking(x, 1, 2);
        Probe.deliverMaking(x, 2, 2);
        x.insert(1, 1, 'm');
        x.insert(2, 1, 'n');
        Check.due("origin in the middle", Probe.hang(x, 3), List.of(2, RIGHT, 1));
        Check.due("origin at the back", Probe.hang(x, 4), List.of(2, RIGHT, 0));
        for (int r = 0; r < 3; r++) {
            Probe.deliverAll(x, r);
            Check.due("order of " + r, Probe.order(x, r), List.of(2, 4, 3, 1, 0));
        }
    }

    private static void subtreesStayWhole() {
        SideTreeText x = new SideTreeText();
        x.insert(1, 0, 'p');
        Probe.deliverAll(x, 0);
        Probe.deliverAll(x, 2);
        x.insert(0, 0, 'a');
        x.insert(0, 0, 'b');
        x.insert(0, 2, 'c');
        x.insert(2, 0, 'd');
        x.insert(2, 0, 'e');
        x.insert(2, 2, 'f');
        x.insert(1, 0, 'g');
        for (int r = 0; r < 3; r++) {
            Probe.deliverAll(x, r);
            Check.due("order of " + r, Probe.order(x, r), List.of(2, 1, 3, 7, 5, 4, 6, 0));
        }
    }

    private static void whatWasTypedInOneGoStandsTogether() {
        SideTreeText x = new SideTreeText();
        for (int i = 0; i < 4; i++) {
            x.insert(2, i, 'a');
            x.insert(0, 0, 'b');
            x.insert(1, i, 'c');
        }
        for (int r = 0; r < 3; r++) {
            Probe.deliverAll(x, r);
            Check.due("text of " + r, Probe.text(x, r),
                    List.of(10, 7, 4, 1, 2, 5, 8, 11, 0, 3, 6, 9));
        }
    }

    private static void makingWaitsForItsRightOrigin() {
        SideTreeText x = new SideTreeText();
        x.insert(0, 0, 'a');
        x.insert(1, 0, 'd');
        Probe.deliverMaking(x, 0, 1);
        x.insert(0, 1, 'f');
        Probe.deliverMaking(x, 2, 0);
        Check.due("parent alone", Probe.deliverMaking(x, 2, 2), 0);
        Check.due("not known", x.state(2, 2), 0);
        Check.due("waits", x.waiting(2), 1);
        Check.due("right origin too", Probe.deliverMaking(x, 2, 1), 2);
        Check.due("order", Probe.order(x, 2), List.of(0, 2, 1));
    }

    private static void makingWaitsForItsParent() {
        SideTreeText x = new SideTreeText();
        x.insert(0, 0, 'a');
        x.insert(0, 1, 'b');
        Check.due("right origin is the end", Probe.deliverMaking(x, 2, 1), 0);
        Check.due("waits", x.waiting(2), 1);
        Check.due("parent too", Probe.deliverMaking(x, 2, 0), 2);
        Check.due("waits no more", x.waiting(2), 0);
    }

    private static void erasingWaitsForItsElement() {
        SideTreeText x = new SideTreeText();
        x.insert(0, 0, 'a');
        x.erase(0, 0);
        Check.due("erasing first", x.deliver(1, 1), 0);
        Check.due("nothing known", x.known(1), 0);
        Check.due("making", x.deliver(1, 0), 2);
        Check.due("state", x.state(1, 0), 2);
    }

    private static void wakingGoesOnUntilNoneIsReady() {
        SideTreeText x = new SideTreeText();
        for (int i = 0; i < 5; i++) {
            x.insert(0, i, i);
        }
        x.insert(1, 0, 'z');
        x.insert(1, 1, 'y');
        for (int e = 4; e > 0; e--) {
            Check.due("making of " + e, Probe.deliverMaking(x, 2, e), 0);
        }
        Check.due("of another one", Probe.deliverMaking(x, 2, 6), 0);
        Check.due("the first", Probe.deliverMaking(x, 2, 0), 5);
        Check.due("one waits on", x.waiting(2), 1);
        Check.due("the other first", Probe.deliverMaking(x, 2, 5), 2);
        Check.due("none waits", x.waiting(2), 0);
        Check.due("order", Probe.order(x, 2), List.of(0, 1, 2, 3, 4, 5, 6));
    }

    private static void replicasConvergeInAnyOrder() {
        SideTreeText x = new SideTreeText();
        for (int i = 0; i < 4; i++) {
            x.insert(0, i / 2, i);
            x.insert(1, 0, i);
            x.erase(1, 0);
            x.insert(1, 0, i);
        }
        while (x.tray(2) > 0) {
            x.deliver(2, x.tray(2) - 1);
        }
        Probe.deliverAll(x, 0);
        Probe.deliverAll(x, 1);
        Check.due("0 and 2", x.differ(0, 2), SideTreeText.NONE);
        Check.due("1 and 2", x.differ(1, 2), SideTreeText.NONE);
        Check.due("length", x.length(2), 8);
        Check.due("orders", Probe.order(x, 0), Probe.order(x, 2));
    }
}
