import java.util.List;

/** The section 'Terms', paragraph by paragraph: REPLICAS and ELEMENTS, ORDER, TO INSERT, MESSAGES, the refusals. */
public final class TermsTest {
    private static final int BAD = SideTreeText.BAD;
    private static final int FULL = SideTreeText.FULL;
    private static final int END = -1;
    private static final int ROOT = -1;
    private static final int LEFT = 0;
    private static final int RIGHT = 1;

    public static void main(String[] args) {
        replicasAndElements();
        order();
        toInsert();
        messages();
        refusals();
        Check.end();
    }

    private static void replicasAndElements() {
        Check.test("Terms, REPLICAS and ELEMENTS: elements are numbered as they were made",
                TermsTest::elementsAreNumberedAsTheyWereMade);
        Check.test("Terms, REPLICAS and ELEMENTS: what an element is never changes",
                TermsTest::whatAnElementIsNeverChanges);
        Check.test("Terms, REPLICAS and ELEMENTS: each replica knows and erases for itself",
                TermsTest::eachReplicaKnowsAndErasesForItself);
    }

    private static void order() {
        Check.test("Terms, ORDER: left children then itself then right children",
                TermsTest::leftChildrenThenItselfThenRightChildren);
        Check.test("Terms, ORDER: root children go by replica", TermsTest::rootChildrenGoByReplica);
        Check.test("Terms, ORDER: left children go by replica", TermsTest::leftChildrenGoByReplica);
        Check.test("Terms, ORDER: right children with later origin come first",
                TermsTest::rightChildrenWithLaterOriginComeFirst);
        Check.test("Terms, ORDER: right children with end as origin come first",
                TermsTest::rightChildrenWithEndAsOriginComeFirst);
        Check.test("Terms, ORDER: right children with same origin go by replica",
                TermsTest::rightChildrenWithSameOriginGoByReplica);
        Check.test("Terms, ORDER: subtrees stay whole", TermsTest::subtreesStayWhole);
        Check.test("Terms, ORDER: text is the order without the erased",
                TermsTest::textIsTheOrderWithoutTheErased);
    }

    private static void toInsert() {
        Check.test("Terms, TO INSERT: insertion hangs right of an a without right child",
                TermsTest::insertionHangsRightOfAWithoutRightChild);
        Check.test("Terms, TO INSERT: insertion hangs left of next otherwise",
                TermsTest::insertionHangsLeftOfNextOtherwise);
        Check.test("Terms, TO INSERT: insertion counts erased elements as next",
                TermsTest::insertionCountsErasedElementsAsNext);
        Check.test("Terms, TO INSERT: only known right children count",
                TermsTest::onlyKnownRightChildrenCount);
        Check.test("Terms, TO INSERT: insertion is known at once", TermsTest::insertionIsKnownAtOnce);
    }

    private static void messages() {
        Check.test("Terms, MESSAGES: changes go into both other trays",
                TermsTest::changesGoIntoBothOtherTrays);
        Check.test("Terms, MESSAGES: delivering takes out of the tray",
                TermsTest::deliveringTakesOutOfTheTray);
        Check.test("Terms, MESSAGES: making waits for its parent", TermsTest::makingWaitsForItsParent);
        Check.test("Terms, MESSAGES: making waits for its right origin",
                TermsTest::makingWaitsForItsRightOrigin);
        Check.test("Terms, MESSAGES: erasing waits for its element", TermsTest::erasingWaitsForItsElement);
        Check.test("Terms, MESSAGES: waking goes on until none is ready",
                TermsTest::wakingGoesOnUntilNoneIsReady);
    }

    private static void refusals() {
        Check.test("Terms, the refusals: refusal named first is answered",
                TermsTest::refusalNamedFirstIsAnswered);
        Check.test("Terms, the refusals: refused calls change nothing", TermsTest::refusedCallsChangeNothing);
        Check.test("Terms, the refusals: no such replica is BAD for every call",
                TermsTest::noSuchReplicaIsBadForEveryCall);
    }

    private static void elementsAreNumberedAsTheyWereMade() {
        SideTreeText x = new SideTreeText();
        int[][] places = {{2, 0}, {0, 0}, {2, 0}, {1, 0}, {0, 1}, {2, 1}};
        for (int e = 0; e < places.length; e++) {
            Check.due("element " + e, x.insert(places[e][0], places[e][1], 70 + e), e);
            Check.due("made by", x.about(e, 0), places[e][0]);
            Check.due("its character", x.about(e, 1), 70 + e);
        }
        x.erase(2, 0);
        Check.due("an erased one keeps its number", x.insert(1, 0, 'a'), 6);
    }

    private static void whatAnElementIsNeverChanges() {
        SideTreeText x = new Run().type(0, 2).deliverFirst(1, 2).play();
        x.insert(1, 1, 'c');
        List<List<Integer>> made = List.of(List.of(ROOT, RIGHT, END), List.of(0, RIGHT, END), List.of(1, LEFT, 1));
        checkHangs("as made", x, made);
        x.insert(0, 1, 'd');
        x.insert(0, 0, 'e');
        checkHangs("when others were made", x, made);
        x.erase(1, 1);
        x.erase(0, 2);
        checkHangs("when it was erased", x, made);
        for (int r = 0; r < 3; r++) {
            Probe.deliverAll(x, r);
        }
        checkHangs("when all is known", x, made);
        Check.due("its character", x.about(2, 1), (int) 'c');
        Check.due("its maker", x.about(2, 0), 1);
    }

    private static void checkHangs(String when, SideTreeText x, List<List<Integer>> hangs) {
        for (int e = 0; e < hangs.size(); e++) {
            Check.due("element " + e + " " + when, Probe.hang(x, e), hangs.get(e));
        }
    }

    private static void eachReplicaKnowsAndErasesForItself() {
        SideTreeText x = new Run().type(0, 1).deliver(1, 0).erase(1, 0).play();
        Check.due("known to its maker", x.state(0, 0), 1);
        Check.due("erased where it was delivered", x.state(1, 0), 2);
        Check.due("not known to the third", x.state(2, 0), 0);
        Check.due("shown by its maker", Probe.text(x, 0), List.of(0));
        Check.due("not shown where it is erased", Probe.text(x, 1), List.of());
        Check.due("not known to the third", Probe.order(x, 2), List.of());
    }

    private static void leftChildrenThenItselfThenRightChildren() {
        SideTreeText x = new SideTreeText();
        x.insert(0, 0, 'm');
        x.insert(0, 0, 'b');
        x.insert(0, 2, 'y');
        x.insert(0, 1, 'c');
        x.insert(0, 3, 'n');
        x.insert(0, 0, 'a');
        x.insert(0, 6, 'z');
        List<List<Integer>> tree = List.of(List.of(ROOT, RIGHT, END), List.of(0, LEFT, 0), List.of(0, RIGHT, END),
                List.of(1, RIGHT, 0), List.of(2, LEFT, 2), List.of(1, LEFT, 1), List.of(2, RIGHT, END));
        checkHangs("in the tree", x, tree);
        Probe.deliverAll(x, 1);
        for (int r = 0; r < 2; r++) {
            Check.due("order of " + r, Probe.order(x, r), List.of(5, 1, 3, 0, 4, 2, 6));
        }
    }

    private static void textIsTheOrderWithoutTheErased() {
        SideTreeText x = new Run().type(0, 4).deliverFirst(1, 4).erase(0, 1).erase(1, 2).play();
        Check.due("order of 0", Probe.order(x, 0), List.of(0, 1, 2, 3));
        Check.due("text of 0", Probe.text(x, 0), List.of(0, 2, 3));
        Check.due("order of 1", Probe.order(x, 1), List.of(0, 1, 2, 3));
        Check.due("text of 1", Probe.text(x, 1), List.of(0, 1, 3));
    }

    private static void insertionHangsRightOfAWithoutRightChild() {
        SideTreeText x = new SideTreeText();
        x.insert(0, 0, 'a');
        x.insert(0, 1, 'b');
        x.insert(0, 0, 'c');
        Check.due("first", Probe.hang(x, 0), List.of(ROOT, RIGHT, END));
        Check.due("behind the last", Probe.hang(x, 1), List.of(0, RIGHT, END));
        Check.due("before the first", Probe.hang(x, 2), List.of(0, LEFT, 0));
        x.insert(0, 1, 'd');
        Check.due("behind a left child", Probe.hang(x, 3), List.of(2, RIGHT, 0));
        Check.due("text", Probe.text(x, 0), List.of(2, 3, 0, 1));

        SideTreeText y = new SideTreeText();
        y.insert(0, 0, 'a');
        y.insert(0, 0, 'b');
        y.insert(0, 2, 'c');
        Check.due("a left child does not count", Probe.hang(y, 2), List.of(0, RIGHT, END));
    }

    private static void insertionHangsLeftOfNextOtherwise() {
        SideTreeText x = new SideTreeText();
        x.insert(0, 0, 'a');
        x.insert(0, 1, 'b');
        x.insert(0, 1, 'c');
        Check.due("between", Probe.hang(x, 2), List.of(1, LEFT, 1));
        x.insert(0, 1, 'd');
        Check.due("next is not a child of a", Probe.hang(x, 3), List.of(2, LEFT, 2));
        Check.due("text", Probe.text(x, 0), List.of(0, 3, 2, 1));
    }

    private static void insertionCountsErasedElementsAsNext() {
        SideTreeText x = new SideTreeText();
        x.insert(0, 0, 'a');
        x.insert(0, 1, 'b');
        x.insert(0, 2, 'c');
        x.erase(0, 1);
        x.insert(0, 1, 'd');
        Check.due("an erased right child counts", Probe.hang(x, 3), List.of(1, LEFT, 1));
        x.insert(0, 2, 'e');
        Check.due("behind a left child", Probe.hang(x, 4), List.of(3, RIGHT, 1));
        Check.due("order", Probe.order(x, 0), List.of(0, 3, 4, 1, 2));
        x.erase(0, 3);
        x.erase(0, 0);
        x.insert(0, 0, 'f');
        Check.due("before an erased first one", Probe.hang(x, 5), List.of(0, LEFT, 0));
        x.insert(0, 3, 'g');
        Check.due("before erased ones to the end", Probe.hang(x, 6), List.of(4, RIGHT, 1));
    }

    private static void onlyKnownRightChildrenCount() {
        SideTreeText x = new SideTreeText();
        x.insert(0, 0, 'a');
        x.insert(0, 1, 'b');
        x.deliver(1, 0);
        x.insert(1, 1, 'c');
        Check.due("b is not known there", Probe.hang(x, 2), List.of(0, RIGHT, END));
        x.insert(2, 0, 'd');
        Check.due("nothing is known there", Probe.hang(x, 3), List.of(ROOT, RIGHT, END));
    }

    private static void insertionIsKnownAtOnce() {
        for (int r = 0; r < 3; r++) {
            SideTreeText x = new SideTreeText();
            x.insert(r, 0, 'a');
            Check.due("its state", x.state(r, 0), 1);
            Check.due("its text", Probe.text(x, r), List.of(0));
            Check.due("no message to itself", x.tray(r), 0);
            Check.due("not known elsewhere", x.known((r + 1) % 3) + x.known((r + 2) % 3), 0);
        }
    }

    private static void rootChildrenGoByReplica() {
        SideTreeText x = new SideTreeText();
        x.insert(2, 0, 'a');
        x.insert(1, 0, 'b');
        x.insert(0, 0, 'c');
        for (int r = 0; r < 3; r++) {
            Probe.deliverAll(x, r);
            Check.due("order of " + r, Probe.order(x, r), List.of(2, 1, 0));
        }
    }

    private static void leftChildrenGoByReplica() {
        SideTreeText x = new SideTreeText();
        x.insert(1, 0, 'p');
        Probe.deliverAll(x, 0);
        Probe.deliverAll(x, 2);
        x.insert(2, 0, 'a');
        x.insert(0, 0, 'b');
        x.insert(1, 0, 'c');
        for (int e = 1; e < 4; e++) {
            Check.due("hang of " + e, Probe.hang(x, e), List.of(0, LEFT, 0));
        }
        for (int r = 0; r < 3; r++) {
            Probe.deliverAll(x, r);
            Check.due("order of " + r, Probe.order(x, r), List.of(2, 3, 1, 0));
        }
    }

    private static void rightChildrenWithSameOriginGoByReplica() {
        SideTreeText x = new SideTreeText();
        x.insert(1, 0, 'p');
        Probe.deliverAll(x, 0);
        Probe.deliverAll(x, 2);
        x.insert(2, 1, 'a');
        x.insert(1, 1, 'b');
        x.insert(0, 1, 'c');
        for (int r = 0; r < 3; r++) {
            Probe.deliverAll(x, r);
            Check.due("order of " + r, Probe.order(x, r), List.of(0, 3, 2, 1));
        }
    }

    private static void rightChildrenWithEndAsOriginComeFirst() {
        SideTreeText x = new SideTreeText();
        x.insert(0, 0, 'a');
        x.insert(1, 0, 'd');
        Probe.deliverMaking(x, 0, 1);
        Probe.deliverMaking(x, 2, 0);
        x.insert(0, 1, 'f');
        x.insert(2, 1, 'e');
        Check.due("with an origin", Probe.hang(x, 2), List.of(0, RIGHT, 1));
        Check.due("with the end", Probe.hang(x, 3), List.of(0, RIGHT, END));
        for (int r = 0; r < 3; r++) {
            Probe.deliverAll(x, r);
            Check.due("order of " + r, Probe.order(x, r), List.of(0, 3, 2, 1));
        }
    }

    private static void rightChildrenWithLaterOriginComeFirst() {
        SideTreeText x = new SideTreeText();
        x.insert(2, 0, 'g');
        x.insert(1, 0, 'd');
        x.insert(0, 0, 'a');
        Probe.deliverMaking(x, 1, 2);
        Probe.deliverMaking(x, 2, 2);
        x.insert(1, 1, 'm');
        x.insert(2, 1, 'n');
        Check.due("origin in the middle", Probe.hang(x, 3), List.of(2, RIGHT, 1));
        Check.due("origin at the back", Probe.hang(x, 4), List.of(2, RIGHT, 0));
        for (int r = 0; r < 3; r++) {
            Probe.deliverAll(x, r);
            Check.due("order of " + r, Probe.order(x, r), List.of(2, 4, 3, 1, 0));
        }
    }

    private static void subtreesStayWhole() {
        SideTreeText x = new SideTreeText();
        x.insert(1, 0, 'p');
        Probe.deliverAll(x, 0);
        Probe.deliverAll(x, 2);
        x.insert(0, 0, 'a');
        x.insert(0, 0, 'b');
        x.insert(0, 2, 'c');
        x.insert(2, 0, 'd');
        x.insert(2, 0, 'e');
        x.insert(2, 2, 'f');
        x.insert(1, 0, 'g');
        for (int r = 0; r < 3; r++) {
            Probe.deliverAll(x, r);
            Check.due("order of " + r, Probe.order(x, r), List.of(2, 1, 3, 7, 5, 4, 6, 0));
        }
    }

    private static void changesGoIntoBothOtherTrays() {
        for (int r = 0; r < 3; r++) {
            SideTreeText x = new Run().type(r, 2).erase(r, 0).type(r, 1).play();
            Check.due("tray of " + r, Probe.tray(x, r), List.of());
            Check.due("tray behind " + r, Probe.tray(x, (r + 1) % 3), List.of(0, 1, -10, 2));
            Check.due("tray before " + r, Probe.tray(x, (r + 2) % 3), List.of(0, 1, -10, 2));
        }
    }

    private static void deliveringTakesOutOfTheTray() {
        SideTreeText x = new Run().type(0, 4).play();
        Check.due("one from the middle", x.deliver(1, 1), 0);
        Check.due("the others stay in their row", Probe.tray(x, 1), List.of(0, 2, 3));
        Check.due("the last", x.deliver(1, 2), 0);
        Check.due("the others stay", Probe.tray(x, 1), List.of(0, 2));
        Check.due("the first", x.deliver(1, 0), 2);
        Check.due("what waited does not come back", Probe.tray(x, 1), List.of(2));
        Check.due("another tray is as it was", Probe.tray(x, 2), List.of(0, 1, 2, 3));
    }

    private static void makingWaitsForItsRightOrigin() {
        SideTreeText x = new SideTreeText();
        x.insert(0, 0, 'a');
        x.insert(1, 0, 'd');
        Probe.deliverMaking(x, 0, 1);
        x.insert(0, 1, 'f');
        Probe.deliverMaking(x, 2, 0);
        Check.due("parent alone", Probe.deliverMaking(x, 2, 2), 0);
        Check.due("not known", x.state(2, 2), 0);
        Check.due("waits", x.waiting(2), 1);
        Check.due("right origin too", Probe.deliverMaking(x, 2, 1), 2);
        Check.due("order", Probe.order(x, 2), List.of(0, 2, 1));
    }

    private static void makingWaitsForItsParent() {
        SideTreeText x = new SideTreeText();
        x.insert(0, 0, 'a');
        x.insert(0, 1, 'b');
        Check.due("right origin is the end", Probe.deliverMaking(x, 2, 1), 0);
        Check.due("waits", x.waiting(2), 1);
        Check.due("parent too", Probe.deliverMaking(x, 2, 0), 2);
        Check.due("waits no more", x.waiting(2), 0);
    }

    private static void erasingWaitsForItsElement() {
        SideTreeText x = new SideTreeText();
        x.insert(0, 0, 'a');
        x.erase(0, 0);
        Check.due("erasing first", x.deliver(1, 1), 0);
        Check.due("nothing known", x.known(1), 0);
        Check.due("making", x.deliver(1, 0), 2);
        Check.due("state", x.state(1, 0), 2);
    }

    private static void wakingGoesOnUntilNoneIsReady() {
        SideTreeText x = new SideTreeText();
        for (int i = 0; i < 5; i++) {
            x.insert(0, i, i);
        }
        x.insert(1, 0, 'z');
        x.insert(1, 1, 'y');
        for (int e = 4; e > 0; e--) {
            Check.due("making of " + e, Probe.deliverMaking(x, 2, e), 0);
        }
        Check.due("of another one", Probe.deliverMaking(x, 2, 6), 0);
        Check.due("the first", Probe.deliverMaking(x, 2, 0), 5);
        Check.due("one waits on", x.waiting(2), 1);
        Check.due("the other first", Probe.deliverMaking(x, 2, 5), 2);
        Check.due("none waits", x.waiting(2), 0);
        Check.due("order", Probe.order(x, 2), List.of(0, 1, 2, 3, 4, 5, 6));
    }

    private static void refusalNamedFirstIsAnswered() {
        SideTreeText x = Situation.bothTrays50AndMade30().run.play();
        Check.due("no replica and full", x.insert(3, 0, 1), BAD);
        Check.due("no place and full", x.insert(0, 11, 1), BAD);
        Check.due("full alone", x.insert(0, 10, 1), FULL);
        Check.due("no replica and full", x.erase(-1, 0), BAD);
        Check.due("no place and full", x.erase(0, 10), BAD);
        Check.due("full alone", x.erase(0, 9), FULL);
        Check.due("no replica before NONE", x.shown(3, -1), BAD);
    }

    private static void refusedCallsChangeNothing() {
        SideTreeText x = new Run().type(0, 3).erase(0, 1).deliver(1, 3).play();
        String before = Probe.picture(x);
        x.insert(0, 3, 1);
        x.insert(0, -1, 1);
        x.insert(3, 0, 1);
        x.erase(0, 2);
        x.erase(0, -1);
        x.erase(-1, 0);
        x.deliver(1, 3);
        x.deliver(1, -1);
        x.deliver(3, 0);
        Check.due("after BAD", Probe.picture(x), before);

        SideTreeText y = Situation.slowTray(2, 50).run.play();
        y.insert(0, 0, 1);
        y.insert(1, 0, 1);
        y.erase(1, 0);
        Check.due("after FULL", Probe.picture(y), Probe.picture(Situation.slowTray(2, 50).run.play()));
    }

    private static void noSuchReplicaIsBadForEveryCall() {
        SideTreeText x = new Run().type(0, 3).erase(0, 1).play();
        for (int r : new int[] {-1, 3, 4, Integer.MIN_VALUE, Integer.MAX_VALUE}) {
            Check.due("insert", x.insert(r, 0, 1), BAD);
            Check.due("erase", x.erase(r, 0), BAD);
            Check.due("deliver", x.deliver(r, 0), BAD);
            Check.due("length", x.length(r), BAD);
            Check.due("known", x.known(r), BAD);
            Check.due("tray", x.tray(r), BAD);
            Check.due("waiting", x.waiting(r), BAD);
            for (int nowhereToo = -1; nowhereToo <= 0; nowhereToo++) {
                Check.due("shown", x.shown(r, nowhereToo), BAD);
                Check.due("ordered", x.ordered(r, nowhereToo), BAD);
                Check.due("state", x.state(r, nowhereToo), BAD);
                Check.due("message", x.message(r, nowhereToo), BAD);
            }
            Check.due("differ", x.differ(r, 0), BAD);
            Check.due("differ", x.differ(0, r), BAD);
            Check.due("differ", x.differ(r, r), BAD);
        }
    }
}
