import java.util.List;

/** The boundary cases that the section 'Terms' and 'What it is' name, each sentence by itself. */
public final class TermsBoundaryTest {
    private static final int BAD = SideTreeText.BAD;
    private static final int FULL = SideTreeText.FULL;
    private static final int NONE = SideTreeText.NONE;
    private static final int END = -1;
    private static final int ROOT = -1;
    private static final int LEFT = 0;
    private static final int RIGHT = 1;

    public static void main(String[] args) {
        Check.test("Terms, REPLICAS and ELEMENTS: replicas are 0, 1, 2", TermsBoundaryTest::replicasAreThree);
        Check.test("Terms, REPLICAS and ELEMENTS: at most 30 elements",
                TermsBoundaryTest::atMostThirtyElements);
        Check.test("Terms, REPLICAS and ELEMENTS: erased elements count among the 30",
                TermsBoundaryTest::erasedElementsCountAmongTheThirty);
        Check.test("Terms, REPLICAS and ELEMENTS: refused insertions use up no number",
                TermsBoundaryTest::refusedInsertionsUseUpNoNumber);
        Check.test("Terms, REPLICAS and ELEMENTS: a parent is an element or the root",
                TermsBoundaryTest::parentIsAnElementOrTheRoot);
        Check.test("Terms, REPLICAS and ELEMENTS: a right origin is an element or the end",
                TermsBoundaryTest::rightOriginIsAnElementOrTheEnd);
        Check.test("Terms, ORDER: the end is later than all elements",
                TermsBoundaryTest::endIsLaterThanAllElements);
        Check.test("Terms, ORDER: the root has right children alone",
                TermsBoundaryTest::rootHasRightChildrenAlone);
        Check.test("Terms, TO INSERT: a is the root for i = 0", TermsBoundaryTest::rootForPlaceZero);
        Check.test("Terms, TO INSERT: a is the root for i = 0 when all is erased",
                TermsBoundaryTest::rootForPlaceZeroWhenAllIsErased);
        Check.test("Terms, TO INSERT: behind the root is the first element of all or the end",
                TermsBoundaryTest::firstElementOfAllOrTheEndBehindTheRoot);
        Check.test("Terms, TO INSERT: behind the last element is the end",
                TermsBoundaryTest::endBehindTheLastElement);
        Check.test("Terms, TO INSERT: erased ones stand behind too",
                TermsBoundaryTest::erasedElementsStandBehindToo);
        Check.test("Terms, MESSAGES: the root and the end are known from the start",
                TermsBoundaryTest::rootAndEndAreReadyFromTheStart);
        Check.test("Terms, MESSAGES: a tray takes 50 messages", TermsBoundaryTest::trayTakesFiftyMessages);
        Check.test("Terms, MESSAGES: messages go behind what is there",
                TermsBoundaryTest::messagesGoBehindWhatIsThere);
        Check.test("Terms, MESSAGES: most messages that can wait", TermsBoundaryTest::mostMessagesThatCanWait);
        Check.test("Terms, MESSAGES: waking stops when none is ready",
                TermsBoundaryTest::wakingStopsWhenNoneIsReady);
        Check.test("Terms, the refusals: BAD is named before FULL", TermsBoundaryTest::badIsNamedBeforeFull);
        Check.test("What it is: an object serves for all 512 calls",
                TermsBoundaryTest::objectServesForAll512Calls);
        Check.test("What it is: refusals and questions are among the 512 calls",
                TermsBoundaryTest::refusalsAndQuestionsAmongThe512Calls);
        Check.end();
    }

    private static void replicasAreThree() {
        for (int r = 0; r < 3; r++) {
            Check.due("insert at " + r, new SideTreeText().insert(r, 0, 'a'), 0);
            Check.due("length of " + r, new SideTreeText().length(r), 0);
        }
        for (int r : new int[] {Integer.MIN_VALUE, -1, 3, Integer.MAX_VALUE}) {
            Check.due("insert at " + r, new SideTreeText().insert(r, 0, 'a'), BAD);
            Check.due("length of " + r, new SideTreeText().length(r), BAD);
        }
    }

    private static void atMostThirtyElements() {
        for (int maker = 0; maker < 3; maker++) {
            SideTreeText x = new Run().type(maker, 28).play();
            Check.due("the 29th", x.insert(maker, 28, 'a'), 28);
            Check.due("the 30th", x.insert(maker, 0, 'a'), 29);
            Check.due("made", x.made(), 30);
            for (int r = 0; r < 3; r++) {
                Check.due("the 31st, by " + r, x.insert(r, 0, 'a'), FULL);
            }
            Check.due("made", x.made(), 30);
        }
        SideTreeText y = new Run().type(2, 10).type(1, 10).type(0, 9).play();
        Check.due("the 30th of all", y.insert(1, 10, 'a'), 29);
        for (int r = 0; r < 3; r++) {
            Check.due("the 31st of all, by " + r, y.insert(r, 0, 'a'), FULL);
        }
    }

    private static void erasedElementsCountAmongTheThirty() {
        SideTreeText x = new Run().type(1, 30).eraseFirst(1, 20).play();
        x.deliver(0, 0);
        x.deliver(2, 0);
        Check.due("erased", x.length(1), 10);
        Check.due("the 31st", x.insert(1, 0, 'a'), FULL);
        Check.due("made", x.made(), 30);
    }

    private static void refusedInsertionsUseUpNoNumber() {
        SideTreeText x = new SideTreeText();
        x.insert(0, 1, 'a');
        x.insert(3, 0, 'a');
        Check.due("the first one", x.insert(0, 0, 'a'), 0);
        x.insert(0, 2, 'a');
        x.insert(-1, 0, 'a');
        Check.due("the second one", x.insert(2, 0, 'a'), 1);
    }

    private static void parentIsAnElementOrTheRoot() {
        SideTreeText x = new Run().type(0, 30).play();
        Check.due("the root", x.about(0, 2), ROOT);
        for (int e = 1; e < 30; e++) {
            Check.due("parent of " + e, x.about(e, 2), e - 1);
        }
        SideTreeText y = new Run().type(2, 1).type(1, 1).type(0, 1).play();
        for (int e = 0; e < 3; e++) {
            Check.due("the root of " + e, y.about(e, 2), ROOT);
        }
    }

    private static void rightOriginIsAnElementOrTheEnd() {
        SideTreeText x = new Run().type(0, 30).play();
        for (int e = 0; e < 30; e++) {
            Check.due("the end for " + e, x.about(e, 4), END);
        }
        SideTreeText y = new SideTreeText();
        for (int e = 0; e < 30; e++) {
            y.insert(1, 0, e);
        }
        Check.due("the end", y.about(0, 4), END);
        for (int e = 1; e < 30; e++) {
            Check.due("right origin of " + e, y.about(e, 4), e - 1);
        }
    }

    /** Replica 2 knows element 2 alone, 0 knows 0 behind it, and 1 knows 1 and 0 behind it. */
    private static void endIsLaterThanAllElements() {
        SideTreeText x = new SideTreeText();
        x.insert(1, 0, 'g');
        x.insert(1, 0, 'd');
        x.insert(0, 0, 'a');
        x.deliver(0, 0);
        x.deliver(1, 0);
        Probe.deliverMaking(x, 2, 2);
        x.insert(0, 1, 'k');
        x.insert(1, 1, 'l');
        x.insert(2, 1, 'm');
        Check.due("the later origin", Probe.hang(x, 3), List.of(2, RIGHT, 0));
        Check.due("the earlier origin", Probe.hang(x, 4), List.of(2, RIGHT, 1));
        Check.due("the end", Probe.hang(x, 5), List.of(2, RIGHT, END));
        for (int r = 0; r < 3; r++) {
            Probe.deliverAll(x, r);
            Check.due("order of " + r, Probe.order(x, r), List.of(2, 5, 3, 4, 1, 0));
        }
    }

    private static void rootHasRightChildrenAlone() {
        SideTreeText x = new SideTreeText();
        for (int n = 0; n < 4; n++) {
            for (int r = 0; r < 3; r++) {
                x.insert(r, 0, n);
            }
        }
        for (int e = 0; e < 12; e++) {
            boolean belowRoot = x.about(e, 2) == ROOT;
            Check.due("below the root: " + e, belowRoot, e < 3);
            Check.due("side of " + e, x.about(e, 3), belowRoot ? RIGHT : LEFT);
        }
    }

    private static void rootForPlaceZero() {
        SideTreeText x = new SideTreeText();
        x.insert(1, 0, 'a');
        Check.due("of an empty text", Probe.hang(x, 0), List.of(ROOT, RIGHT, END));
        x.insert(1, 0, 'b');
        Check.due("the root has a right child", Probe.hang(x, 1), List.of(0, LEFT, 0));
        x.insert(1, 1, 'c');
        Check.due("place 1 is behind an element", Probe.hang(x, 2), List.of(1, RIGHT, 0));
        x.insert(0, 0, 'd');
        Check.due("of another empty text", Probe.hang(x, 3), List.of(ROOT, RIGHT, END));
    }

    private static void rootForPlaceZeroWhenAllIsErased() {
        SideTreeText x = new Run().type(0, 2).eraseFirst(0, 2).play();
        Check.due("place 0", x.insert(0, 0, 'a'), 2);
        Check.due("an erased right child of the root counts", Probe.hang(x, 2), List.of(0, LEFT, 0));
        Check.due("order", Probe.order(x, 0), List.of(2, 0, 1));
        Check.due("text", Probe.text(x, 0), List.of(2));
    }

    private static void firstElementOfAllOrTheEndBehindTheRoot() {
        SideTreeText x = new SideTreeText();
        x.insert(0, 0, 'a');
        x.insert(0, 0, 'b');
        x.insert(0, 0, 'c');
        Check.due("the first of all is no child of the root", Probe.hang(x, 2), List.of(1, LEFT, 1));
        x.erase(0, 0);
        x.insert(0, 0, 'd');
        Check.due("the first of all is erased", Probe.hang(x, 3), List.of(2, LEFT, 2));
        x.insert(1, 0, 'e');
        Check.due("none is known: the end", Probe.hang(x, 4), List.of(ROOT, RIGHT, END));
        x.deliver(2, 0);
        x.insert(2, 0, 'f');
        Check.due("the first of those that are known", Probe.hang(x, 5), List.of(0, LEFT, 0));
    }

    private static void endBehindTheLastElement() {
        SideTreeText x = new Run().type(0, 1).play();
        x.insert(0, 0, 'b');
        x.insert(0, 2, 'c');
        Check.due("behind the last", Probe.hang(x, 2), List.of(0, RIGHT, END));
        x.insert(0, 2, 'd');
        Check.due("one before the last", Probe.hang(x, 3), List.of(2, LEFT, 2));
        x.deliver(1, 0);
        x.insert(1, 1, 'e');
        Check.due("the last that is known", Probe.hang(x, 4), List.of(0, RIGHT, END));
    }

    private static void erasedElementsStandBehindToo() {
        SideTreeText x = new Run().type(0, 3).play();
        x.erase(0, 2);
        x.insert(0, 2, 'd');
        Check.due("the erased last one", Probe.hang(x, 3), List.of(2, LEFT, 2));
        x.erase(0, 0);
        x.insert(0, 0, 'e');
        Check.due("the erased first one", Probe.hang(x, 4), List.of(0, LEFT, 0));
        Check.due("order", Probe.order(x, 0), List.of(4, 0, 1, 3, 2));
    }

    private static void rootAndEndAreReadyFromTheStart() {
        SideTreeText x = new Run().type(0, 1).play();
        Check.due("root and end", x.deliver(1, 0), 1);
        Check.due("known", x.state(1, 0), 1);
        x.insert(0, 1, 'b');
        Check.due("an element and the end", x.deliver(1, 0), 1);
        Check.due("the root alone does not do", x.deliver(2, 1), 0);
    }

    private static void trayTakesFiftyMessages() {
        SideTreeText x = new Run().type(0, 29).eraseFirst(0, 20).play();
        Check.due("49 messages", x.tray(1), 49);
        Check.due("the 50th", x.erase(0, 0), 20);
        Check.due("50 messages", x.tray(1), 50);
        Check.due("50 messages", x.tray(2), 50);
        Check.due("the 51st by erase", x.erase(0, 0), FULL);
        Check.due("the 51st by insert", x.insert(0, 0, 'a'), FULL);
        Check.due("still 50", x.tray(1), 50);
        Check.due("still 50", x.tray(2), 50);
        x.deliver(1, 49);
        Check.due("one of the two is still full", x.insert(0, 0, 'a'), FULL);
        x.deliver(2, 0);
        Check.due("both have 49", x.insert(0, 0, 'a'), 29);
        Check.due("50 again", x.tray(1), 50);
    }

    private static void messagesGoBehindWhatIsThere() {
        SideTreeText x = new Run().type(0, 2).eraseFirst(0, 1).type(1, 1).play();
        Check.due("of two replicas", Probe.tray(x, 2), List.of(0, 1, -10, 2));
        x.deliver(2, 3);
        x.erase(0, 0);
        Check.due("behind what is left", Probe.tray(x, 2), List.of(0, 1, -10, -11));
        Check.due("of one replica", Probe.tray(x, 0), List.of(2));
    }

    private static void mostMessagesThatCanWait() {
        Situation most = Situation.most89Wait();
        SideTreeText x = most.run.play();
        Check.due("waiting", x.waiting(2), 89);
        Check.due("none known", x.known(2), 0);
        Check.due("all at once", x.deliver(2, 0), 90);
        Check.due("waiting", x.waiting(2), 0);
        Check.due("known", x.known(2), 30);
        Check.due("length", x.length(2), 0);
        Check.due("order", Probe.order(x, 2), Probe.order(x, 0));
    }

    private static void wakingStopsWhenNoneIsReady() {
        SideTreeText x = new Run().type(0, 3).type(1, 2).play();
        Check.due("2 waits for 1", x.deliver(2, 2), 0);
        Check.due("4 waits for 3", x.deliver(2, 3), 0);
        Check.due("0 wakes none", x.deliver(2, 0), 1);
        Check.due("two wait", x.waiting(2), 2);
        Check.due("1 wakes 2 alone", x.deliver(2, 0), 2);
        Check.due("one waits", x.waiting(2), 1);
        Check.due("3 wakes the last", x.deliver(2, 0), 2);
        Check.due("none waits", x.waiting(2), 0);
    }

    private static void badIsNamedBeforeFull() {
        SideTreeText x = Situation.bothTrays50AndMade30().run.play();
        Check.due("insert within the text", x.insert(0, 10, 'a'), FULL);
        Check.due("insert behind it", x.insert(0, 11, 'a'), BAD);
        Check.due("insert before it", x.insert(0, -1, 'a'), BAD);
        Check.due("insert at no replica", x.insert(3, 10, 'a'), BAD);
        Check.due("erase within the text", x.erase(0, 9), FULL);
        Check.due("erase behind it", x.erase(0, 10), BAD);
        Check.due("erase before it", x.erase(0, -1), BAD);
        Check.due("erase at no replica", x.erase(-1, 9), BAD);
    }

    /** All that can be changed in one run: 30 made, 90 erased, 240 messages delivered. */
    private static void objectServesForAll512Calls() {
        Run run = new Run().type(0, 30).deliverFirst(1, 30).deliverFirst(2, 30);
        for (int n = 0; n < 30; n++) {
            run.erase(0, 0).erase(1, 0).erase(2, 0);
            run.deliverFirst(0, 2).deliverFirst(1, 2).deliverFirst(2, 2);
        }
        Check.due("changing calls", run.size(), 360);
        SideTreeText x = run.play();
        for (int n = 360; n < Run.MOST_CALLS - 1; n++) {
            Check.due("call " + n, x.ordered(n % 3, n % 30), n % 30);
        }
        Check.due("call 512", x.known(2), 30);
    }

    private static void refusalsAndQuestionsAmongThe512Calls() {
        SideTreeText x = new SideTreeText();
        for (int n = 0; n < Run.MOST_CALLS - 30; n++) {
            Check.due("refused " + n, n % 2 == 0 ? x.deliver(0, 0) : x.insert(0, 1, 'a'), BAD);
        }
        for (int n = 0; n < 30; n++) {
            Check.due("insert as call " + (n + 483), x.insert(0, n, 'a'), n);
        }
        SideTreeText y = new Run().type(0, 2).play();
        for (int n = 2; n < Run.MOST_CALLS - 1; n++) {
            Check.due("question " + n, y.differ(1, 2), NONE);
        }
        Check.due("deliver as call 512", y.deliver(1, 0), 1);
    }
}
