import java.util.List;

/** The boundary cases that the promises 1 to 16 name, each sentence by itself. */
public final class PromisesBoundaryTest {
    private static final int BAD = SideTreeText.BAD;
    private static final int FULL = SideTreeText.FULL;
    private static final int NONE = SideTreeText.NONE;
    private static final int MIN = Integer.MIN_VALUE;
    private static final int MAX = Integer.MAX_VALUE;
    private static final int[] NOWHERE = {MIN, MIN + 1, -3, -2, -1, 30, 31, 50, 51, MAX - 1, MAX};

    public static void main(String[] args) {
        Check.test("Promise 1: a new object has no elements and no messages",
                PromisesBoundaryTest::newObjectHasNoElementsAndNoMessages);
        Check.test("Promise 2: insert is BAD outside 0 .. length",
                PromisesBoundaryTest::insertIsBadOutsideZeroToLength);
        Check.test("Promise 2: insert is BAD behind an empty text",
                PromisesBoundaryTest::insertIsBadBehindAnEmptyText);
        Check.test("Promise 2: insert is FULL when 30 were made",
                PromisesBoundaryTest::insertIsFullWhenThirtyWereMade);
        Check.test("Promise 2: insert is FULL when another tray has 50",
                PromisesBoundaryTest::insertIsFullWhenAnotherTrayHasFifty);
        Check.test("Promise 2: insert takes any character",
                PromisesBoundaryTest::insertTakesAnyCharacter);
        Check.test("Promise 3: erase is BAD outside 0 .. length - 1",
                PromisesBoundaryTest::eraseIsBadOutsideZeroToLengthLessOne);
        Check.test("Promise 3: erase is BAD in an empty text",
                PromisesBoundaryTest::eraseIsBadInAnEmptyText);
        Check.test("Promise 3: erase is FULL when another tray has 50",
                PromisesBoundaryTest::eraseIsFullWhenAnotherTrayHasFifty);
        Check.test("Promise 3: erase is not FULL when 30 were made",
                PromisesBoundaryTest::eraseIsNotFullWhenThirtyWereMade);
        Check.test("Promise 4: deliver is BAD without such a message",
                PromisesBoundaryTest::deliverIsBadWithoutSuchAMessage);
        Check.test("Promise 4: deliver answers 0 when it waits",
                PromisesBoundaryTest::deliverAnswersZeroWhenItWaits);
        Check.test("Promise 4: deliver counts all that take effect",
                PromisesBoundaryTest::deliverCountsAllThatTakeEffect);
        Check.test("Promise 5: length from none to 30",
                PromisesBoundaryTest::lengthFromNoneToThirty);
        Check.test("Promise 6: shown is NONE outside the text",
                PromisesBoundaryTest::shownIsNoneOutsideTheText);
        Check.test("Promise 7: ordered is NONE outside the order",
                PromisesBoundaryTest::orderedIsNoneOutsideTheOrder);
        Check.test("Promise 8: known from none to 30",
                PromisesBoundaryTest::knownFromNoneToThirty);
        Check.test("Promise 9: state is 0 when not known there",
                PromisesBoundaryTest::stateIsZeroWhenNotKnownThere);
        Check.test("Promise 9: state is 0 when there is none",
                PromisesBoundaryTest::stateIsZeroWhenThereIsNone);
        Check.test("Promise 10: tray from none to 50",
                PromisesBoundaryTest::trayFromNoneToFifty);
        Check.test("Promise 11: waiting from none to 89",
                PromisesBoundaryTest::waitingFromNoneToEightyNine);
        Check.test("Promise 12: message is NONE outside the tray",
                PromisesBoundaryTest::messageIsNoneOutsideTheTray);
        Check.test("Promise 12: message tells the first and the last element",
                PromisesBoundaryTest::messageTellsTheFirstAndTheLastElement);
        Check.test("Promise 13: made from none to 30",
                PromisesBoundaryTest::madeFromNoneToThirty);
        Check.test("Promise 14: about is NONE without such an element",
                PromisesBoundaryTest::aboutIsNoneWithoutSuchAnElement);
        Check.test("Promise 14: about is NONE for another what",
                PromisesBoundaryTest::aboutIsNoneForAnotherWhat);
        Check.test("Promise 14: about tells characters that look like refusals",
                PromisesBoundaryTest::aboutTellsCharactersThatLookLikeRefusals);
        Check.test("Promise 15: depth from 0 to 29",
                PromisesBoundaryTest::depthFromNoneToTwentyNine);
        Check.test("Promise 15: depth is NONE without such an element",
                PromisesBoundaryTest::depthIsNoneWithoutSuchAnElement);
        Check.test("Promise 16: differ is the place of the first other element",
                PromisesBoundaryTest::differIsThePlaceOfTheFirstOtherElement);
        Check.test("Promise 16: differ is where one of them ends",
                PromisesBoundaryTest::differIsWhereOneOfThemEnds);
        Check.test("Promise 16: differ goes by elements, not characters",
                PromisesBoundaryTest::differGoesByElementsNotCharacters);
        Check.test("Promise 16: differ is NONE when they are the same",
                PromisesBoundaryTest::differIsNoneWhenTheyAreTheSame);
        Check.test("Promise 16: differ is BAD for either",
                PromisesBoundaryTest::differIsBadForEither);
        Check.end();
    }

    private static void newObjectHasNoElementsAndNoMessages() {
        for (List<Questions.Question> part : Questions.parts()) {
            SideTreeText x = new SideTreeText();
            for (Questions.Question q : part) {
                boolean asksForOne = q.name().matches("(shown|ordered|message|about|depth|differ).*");
                Check.due("new: " + q.name(), q.ask().applyAsInt(x), asksForOne ? NONE : 0);
            }
        }
        SideTreeText y = new SideTreeText();
        for (int r = 0; r < 3; r++) {
            Check.due("nothing to erase", y.erase(r, 0), BAD);
            Check.due("nothing to deliver", y.deliver(r, 0), BAD);
        }
    }

    private static void insertIsBadOutsideZeroToLength() {
        SideTreeText x = new Run().type(1, 3).play();
        for (int i : new int[] {MIN, MIN + 1, -2, -1, 4, 5, MAX - 1, MAX}) {
            Check.due("insert at " + i, x.insert(1, i, 'a'), BAD);
        }
        Check.due("at length", x.insert(1, 3, 'a'), 3);
        Check.due("at 0", x.insert(1, 0, 'a'), 4);
        Check.due("at length - 1", x.insert(1, 4, 'a'), 5);
        Check.due("text", Probe.text(x, 1), List.of(4, 0, 1, 2, 5, 3));
        x.erase(1, 0);
        Check.due("length is one less", x.insert(1, 6, 'a'), BAD);
        Check.due("at the new length", x.insert(1, 5, 'a'), 6);
    }

    private static void insertIsBadBehindAnEmptyText() {
        SideTreeText x = new SideTreeText();
        Check.due("at 1", x.insert(0, 1, 'a'), BAD);
        Check.due("at -1", x.insert(0, -1, 'a'), BAD);
        Check.due("at 0", x.insert(0, 0, 'a'), 0);
        Check.due("elsewhere at 1", x.insert(1, 1, 'a'), BAD);
        x.deliver(1, 0);
        Check.due("elsewhere at 1", x.insert(1, 1, 'a'), 1);
        SideTreeText y = new Run().type(0, 2).eraseFirst(0, 2).play();
        Check.due("all erased, at 1", y.insert(0, 1, 'a'), BAD);
        Check.due("all erased, at 0", y.insert(0, 0, 'a'), 2);
    }

    private static void insertIsFullWhenThirtyWereMade() {
        SideTreeText x = new Run().type(2, 29).play();
        Check.due("29 were made", x.insert(2, 29, 'a'), 29);
        Check.due("30 were made, at 0", x.insert(2, 0, 'a'), FULL);
        Check.due("30 were made, at length", x.insert(2, 30, 'a'), FULL);
        Check.due("30 were made, behind", x.insert(2, 31, 'a'), BAD);
        Check.due("30 were made, before", x.insert(2, -1, 'a'), BAD);
        Check.due("30 were made, in an empty text", x.insert(0, 0, 'a'), FULL);
        Check.due("30 were made, behind an empty text", x.insert(0, 1, 'a'), BAD);
        Check.due("no tray has 50", x.tray(0), 30);
    }

    private static void insertIsFullWhenAnotherTrayHasFifty() {
        for (int slow = 0; slow < 3; slow++) {
            int typist = (slow + 1) % 3;
            int helper = (slow + 2) % 3;
            SideTreeText below = Situation.slowTray(slow, 49).run.play();
            Check.due("49 in the tray of " + slow, below.insert(typist, 0, 'a'), 20);
            Check.due("50 in the tray of " + slow, below.insert(typist, 0, 'a'), FULL);
            SideTreeText x = Situation.slowTray(slow, 50).run.play();
            Check.due("by " + typist, x.insert(typist, 0, 'a'), FULL);
            Check.due("by " + typist + " behind", x.insert(typist, 1, 'a'), BAD);
            Check.due("by " + helper, x.insert(helper, 10, 'a'), FULL);
            Check.due("by " + helper + " behind", x.insert(helper, 11, 'a'), BAD);
            Check.due("its own tray has 50", x.insert(slow, 0, 'a'), 20);
            Check.due("its own tray still has 50", x.tray(slow), 50);
            x.deliver(slow, 49);
            Check.due("49 again", x.insert(helper, 10, 'a'), 21);
        }
    }

    private static void insertTakesAnyCharacter() {
        SideTreeText x = new SideTreeText();
        int[] characters = {MIN, -4, -3, -2, -1, 0, 1, 255, 256, 65536, MAX};
        for (int e = 0; e < characters.length; e++) {
            Check.due("character " + characters[e], x.insert(0, e, characters[e]), e);
            Check.due("is kept", x.about(e, 1), characters[e]);
        }
    }

    private static void eraseIsBadOutsideZeroToLengthLessOne() {
        SideTreeText x = new Run().type(2, 4).play();
        for (int i : new int[] {MIN, MIN + 1, -2, -1, 4, 5, MAX - 1, MAX}) {
            Check.due("erase at " + i, x.erase(2, i), BAD);
        }
        Check.due("at length - 1", x.erase(2, 3), 3);
        Check.due("length is one less", x.erase(2, 3), BAD);
        Check.due("at 0", x.erase(2, 0), 0);
        Check.due("at the new length - 1", x.erase(2, 1), 2);
        Check.due("at 0, the last one", x.erase(2, 0), 1);
        Check.due("none is left", x.erase(2, 0), BAD);
    }

    private static void eraseIsBadInAnEmptyText() {
        SideTreeText x = new Run().type(0, 1).play();
        for (int i : new int[] {MIN, -1, 0, 1, MAX}) {
            Check.due("without elements, at " + i, x.erase(1, i), BAD);
        }
        x.erase(0, 0);
        for (int i : new int[] {MIN, -1, 0, 1, MAX}) {
            Check.due("all erased, at " + i, x.erase(0, i), BAD);
        }
        SideTreeText full = new Run().type(0, 25).eraseFirst(0, 25).play();
        Check.due("trays", full.tray(1) + full.tray(2), 100);
        Check.due("BAD though the trays are full", full.erase(0, 0), BAD);
    }

    private static void eraseIsFullWhenAnotherTrayHasFifty() {
        for (int slow = 0; slow < 3; slow++) {
            int helper = (slow + 2) % 3;
            SideTreeText x = Situation.slowTray(slow, 49).run.play();
            Check.due("49 in the tray of " + slow, x.erase(helper, 0), 9);
            Check.due("50 in the tray of " + slow, x.erase(helper, 0), FULL);
            Check.due("at length - 1", x.erase(helper, 9), FULL);
            Check.due("at length", x.erase(helper, 10), BAD);
            Check.due("at -1", x.erase(helper, -1), BAD);
            Check.due("nothing is erased", x.length(helper), 10);
            x.deliver(slow, 0);
            Check.due("49 again", x.erase(helper, 9), 19);
            Check.due("its own tray has 50", x.tray(slow), 50);
            Check.due("which does not count", x.erase(slow, 0), 0);
        }
    }

    private static void eraseIsNotFullWhenThirtyWereMade() {
        SideTreeText x = new Run().type(0, 30).play();
        Check.due("the last of 30", x.erase(0, 29), 29);
        Check.due("the first of 30", x.erase(0, 0), 0);
        Check.due("BAD behind", x.erase(0, 28), BAD);
    }

    private static void deliverIsBadWithoutSuchAMessage() {
        SideTreeText empty = new SideTreeText();
        SideTreeText three = new Run().type(0, 3).play();
        SideTreeText fifty = Situation.bothTrays50AndMade30().run.play();
        for (int k : new int[] {MIN, MIN + 1, -10, -2, -1, 50, 51, MAX - 1, MAX}) {
            Check.due("of none, " + k, empty.deliver(2, k), BAD);
            Check.due("of three, " + k, three.deliver(1, k), BAD);
            Check.due("of fifty, " + k, fifty.deliver(2, k), BAD);
        }
        Check.due("of none, 0", empty.deliver(2, 0), BAD);
        Check.due("of three, 3", three.deliver(1, 3), BAD);
        Check.due("of three, 0", three.deliver(1, 0), 1);
        Check.due("of two, 2", three.deliver(1, 2), BAD);
        Check.due("of two, 1", three.deliver(1, 1), 0);
        Check.due("of one, 1", three.deliver(1, 1), BAD);
        Check.due("of one, 0", three.deliver(1, 0), 2);
        Check.due("of none left, 0", three.deliver(1, 0), BAD);
        Check.due("of fifty, 49", fifty.deliver(2, 49), 0);
        Check.due("of forty-nine, 49", fifty.deliver(2, 49), BAD);
        Check.due("of forty-nine, 48", fifty.deliver(2, 48), 0);
        Check.due("the other tray has fifty", fifty.deliver(1, 49), 0);
    }

    private static void deliverAnswersZeroWhenItWaits() {
        SideTreeText x = new Run().type(0, 2).erase(0, 1).play();
        Check.due("an erasing without its element", x.deliver(1, 2), 0);
        Check.due("it waits", x.waiting(1), 1);
        Check.due("a making without its parent", x.deliver(1, 1), 0);
        Check.due("it waits", x.waiting(1), 2);
        Check.due("none is known", x.known(1), 0);
        Check.due("one is left in the tray", x.tray(1), 1);
    }

    private static void deliverCountsAllThatTakeEffect() {
        SideTreeText x = new Run().type(0, 25).eraseFirst(0, 25).play();
        for (int k = 49; k > 0; k--) {
            Check.due("message " + k, x.deliver(1, k), 0);
        }
        Check.due("49 wait", x.waiting(1), 49);
        Check.due("all fifty", x.deliver(1, 0), 50);
        Check.due("none waits", x.waiting(1), 0);
        Check.due("one that is ready", x.deliver(2, 0), 1);
    }

    private static void lengthFromNoneToThirty() {
        SideTreeText x = new SideTreeText();
        for (int n = 0; n < 30; n++) {
            Check.due("length", x.length(0), n);
            x.insert(0, n, 'a');
        }
        Check.due("of thirty", x.length(0), 30);
        x.insert(0, 30, 'a');
        Check.due("a refused one does not count", x.length(0), 30);
        x.erase(0, 0);
        Check.due("one erased", x.length(0), 29);
        Check.due("none known there", x.length(1), 0);
        SideTreeText y = Situation.made30AndAllErased().run.play();
        for (int r = 0; r < 3; r++) {
            Check.due("thirty erased", y.length(r), 0);
        }
    }

    private static void shownIsNoneOutsideTheText() {
        SideTreeText x = new Run().type(0, 30).play();
        for (int i : NOWHERE) {
            Check.due("shown of thirty, " + i, x.shown(0, i), NONE);
            Check.due("shown of none, " + i, x.shown(1, i), NONE);
        }
        Check.due("the first", x.shown(0, 0), 0);
        Check.due("the thirtieth", x.shown(0, 29), 29);
        Check.due("of none", x.shown(1, 0), NONE);
        x.erase(0, 0);
        Check.due("the first", x.shown(0, 0), 1);
        Check.due("the last", x.shown(0, 28), 29);
        Check.due("one less", x.shown(0, 29), NONE);
        x.deliver(1, 0);
        Check.due("of one", x.shown(1, 0), 0);
        Check.due("behind one", x.shown(1, 1), NONE);
        SideTreeText y = Situation.twoErased().run.play();
        Check.due("all erased", y.shown(1, 0), NONE);
    }

    private static void orderedIsNoneOutsideTheOrder() {
        SideTreeText x = new Run().type(0, 30).eraseFirst(0, 1).play();
        for (int i : NOWHERE) {
            Check.due("ordered of thirty, " + i, x.ordered(0, i), NONE);
            Check.due("ordered of none, " + i, x.ordered(1, i), NONE);
        }
        Check.due("the first, though erased", x.ordered(0, 0), 0);
        Check.due("the thirtieth", x.ordered(0, 29), 29);
        Check.due("of none", x.ordered(1, 0), NONE);
        x.deliver(1, 0);
        Check.due("of one", x.ordered(1, 0), 0);
        Check.due("behind one", x.ordered(1, 1), NONE);
        SideTreeText y = Situation.twoErased().run.play();
        Check.due("all erased, the last", y.ordered(1, 1), 1);
        Check.due("all erased, behind", y.ordered(1, 2), NONE);
    }

    private static void knownFromNoneToThirty() {
        SideTreeText x = new Run().type(0, 30).play();
        Check.due("none", x.known(1), 0);
        for (int n = 1; n <= 30; n++) {
            x.deliver(1, 0);
            Check.due("known", x.known(1), n);
        }
        x.erase(1, 0);
        Check.due("the erased one too", x.known(1), 30);
        Check.due("all of its own", x.known(0), 30);
        Check.due("a waiting one is not known", Situation.most89Wait().run.play().known(2), 0);
    }

    private static void stateIsZeroWhenNotKnownThere() {
        SideTreeText x = new Run().type(0, 30).eraseFirst(0, 1).play();
        for (int e = 0; e < 30; e++) {
            Check.due("at its maker", x.state(0, e), e == 0 ? 2 : 1);
            Check.due("elsewhere", x.state(1, e), 0);
        }
        x.deliver(1, 1);
        Check.due("a waiting one", x.state(1, 1), 0);
        x.deliver(1, 29);
        Check.due("a waiting erasing", x.state(1, 0), 0);
        x.deliver(1, 0);
        Check.due("known and erased at once", x.state(1, 0), 2);
        Check.due("known", x.state(1, 1), 1);
        Check.due("not known yet", x.state(1, 2), 0);
    }

    private static void stateIsZeroWhenThereIsNone() {
        SideTreeText none = new SideTreeText();
        SideTreeText two = new Run().type(0, 2).play();
        SideTreeText thirty = new Run().type(0, 30).play();
        for (int element : NOWHERE) {
            Check.due("of none, " + element, none.state(0, element), 0);
            Check.due("of two, " + element, two.state(0, element), 0);
            Check.due("of thirty, " + element, thirty.state(0, element), 0);
        }
        Check.due("of none, 0", none.state(0, 0), 0);
        Check.due("of two, 1", two.state(0, 1), 1);
        Check.due("of two, 2", two.state(0, 2), 0);
        Check.due("of two, 29", two.state(0, 29), 0);
        Check.due("of thirty, 29", thirty.state(0, 29), 1);
    }

    private static void trayFromNoneToFifty() {
        SideTreeText x = new SideTreeText();
        for (int n = 0; n < 25; n++) {
            Check.due("tray", x.tray(2), n);
            x.insert(0, n, 'a');
        }
        for (int n = 25; n < 50; n++) {
            Check.due("tray", x.tray(2), n);
            x.erase(0, 0);
        }
        Check.due("most", x.tray(2), 50);
        x.insert(0, 0, 'a');
        Check.due("a refused one puts none", x.tray(2), 50);
        for (int n = 49; n >= 0; n--) {
            x.deliver(2, 0);
            Check.due("tray", x.tray(2), n);
        }
        x.deliver(2, 0);
        Check.due("none is left", x.tray(2), 0);
    }

    private static void waitingFromNoneToEightyNine() {
        Check.due("none", new SideTreeText().waiting(0), 0);
        SideTreeText x = Situation.most89Wait().run.play();
        Check.due("most", x.waiting(2), 89);
        Check.due("none elsewhere", x.waiting(0), 0);
        x.deliver(2, 1);
        Check.due("a refused one does not wait", x.waiting(2), 89);
        x.deliver(2, 0);
        Check.due("none any more", x.waiting(2), 0);
    }

    private static void messageIsNoneOutsideTheTray() {
        SideTreeText none = new SideTreeText();
        SideTreeText two = new Run().type(0, 2).play();
        SideTreeText fifty = Situation.bothTrays50().run.play();
        for (int k : new int[] {MIN, MIN + 1, -11, -10, -2, -1, 50, 51, MAX - 1, MAX}) {
            Check.due("of none, " + k, none.message(1, k), NONE);
            Check.due("of two, " + k, two.message(1, k), NONE);
            Check.due("of fifty, " + k, fifty.message(2, k), NONE);
        }
        Check.due("of none, 0", none.message(1, 0), NONE);
        Check.due("of two, 1", two.message(1, 1), 1);
        Check.due("of two, 2", two.message(1, 2), NONE);
        Check.due("its maker's tray", two.message(0, 0), NONE);
        Check.due("of fifty, 49", fifty.message(2, 49), -33);
        two.deliver(1, 0);
        Check.due("of one, 0", two.message(1, 0), 1);
        Check.due("of one, 1", two.message(1, 1), NONE);
        two.deliver(1, 0);
        Check.due("of none left", two.message(1, 0), NONE);
    }

    private static void messageTellsTheFirstAndTheLastElement() {
        SideTreeText x = new Run().type(0, 30).play();
        x.erase(0, 29);
        x.erase(0, 0);
        Check.due("makes element 0", x.message(1, 0), 0);
        Check.due("makes element 29", x.message(1, 29), 29);
        Check.due("erases element 29", x.message(1, 30), -39);
        Check.due("erases element 0", x.message(1, 31), -10);
    }

    private static void madeFromNoneToThirty() {
        SideTreeText x = new SideTreeText();
        x.insert(0, 1, 'a');
        for (int n = 0; n < 30; n++) {
            Check.due("made", x.made(), n);
            x.insert(n % 3, 0, 'a');
        }
        Check.due("most", x.made(), 30);
        x.insert(0, 0, 'a');
        Check.due("a refused one is not made", x.made(), 30);
        x.erase(0, 0);
        Check.due("an erased one was made", x.made(), 30);
    }

    private static void aboutIsNoneWithoutSuchAnElement() {
        SideTreeText none = new SideTreeText();
        SideTreeText two = new Run().type(0, 2).play();
        SideTreeText thirty = new Run().type(0, 30).play();
        for (int what = 0; what < 5; what++) {
            for (int element : NOWHERE) {
                Check.due("of none, " + element, none.about(element, what), NONE);
                Check.due("of two, " + element, two.about(element, what), NONE);
                Check.due("of thirty, " + element, thirty.about(element, what), NONE);
            }
            Check.due("of none, 0", none.about(0, what), NONE);
            Check.due("of two, 2", two.about(2, what), NONE);
            Check.due("of two, 29", two.about(29, what), NONE);
        }
        int[] second = {0, 101, 0, 1, -1};
        int[] last = {0, 129, 28, 1, -1};
        for (int what = 0; what < 5; what++) {
            Check.due("of two, 1", two.about(1, what), second[what]);
            Check.due("of thirty, 29", thirty.about(29, what), last[what]);
        }
    }

    private static void aboutIsNoneForAnotherWhat() {
        SideTreeText x = new Run().type(2, 1).play();
        for (int what : new int[] {MIN, MIN + 1, -2, -1, 5, 6, MAX - 1, MAX}) {
            Check.due("what " + what, x.about(0, what), NONE);
            Check.due("of no element, what " + what, x.about(1, what), NONE);
        }
        Check.due("the first what", x.about(0, 0), 2);
        Check.due("the last what", x.about(0, 4), -1);
    }

    private static void aboutTellsCharactersThatLookLikeRefusals() {
        SideTreeText x = new SideTreeText();
        x.insert(0, 0, NONE);
        x.insert(0, 1, BAD);
        x.insert(0, 2, FULL);
        Check.due("like NONE", x.about(0, 1), NONE);
        Check.due("like BAD", x.about(1, 1), BAD);
        Check.due("like FULL", x.about(2, 1), FULL);
        Check.due("shown all the same", Probe.text(x, 0), List.of(0, 1, 2));
    }

    private static void depthFromNoneToTwentyNine() {
        SideTreeText behind = new Run().type(0, 30).play();
        SideTreeText before = new SideTreeText();
        for (int e = 0; e < 30; e++) {
            before.insert(1, 0, 'a');
            Check.due("down the right side", behind.depth(e), e);
            Check.due("down the left side", before.depth(e), e);
        }
        SideTreeText flat = new Run().type(0, 1).type(1, 1).type(2, 1).play();
        for (int e = 0; e < 3; e++) {
            Check.due("below the root", flat.depth(e), 0);
        }
    }

    private static void depthIsNoneWithoutSuchAnElement() {
        SideTreeText none = new SideTreeText();
        SideTreeText two = new Run().type(0, 2).play();
        SideTreeText thirty = new Run().type(0, 30).play();
        for (int element : NOWHERE) {
            Check.due("of none, " + element, none.depth(element), NONE);
            Check.due("of two, " + element, two.depth(element), NONE);
            Check.due("of thirty, " + element, thirty.depth(element), NONE);
        }
        Check.due("of none, 0", none.depth(0), NONE);
        Check.due("of two, 1", two.depth(1), 1);
        Check.due("of two, 2", two.depth(2), NONE);
        Check.due("of two, 29", two.depth(29), NONE);
        Check.due("of thirty, 29", thirty.depth(29), 29);
    }

    private static void checkDiffer(String what, SideTreeText x, int one, int other, int want) {
        Check.due(what, x.differ(one, other), want);
        Check.due(what + ", the other way round", x.differ(other, one), want);
    }

    private static void differIsThePlaceOfTheFirstOtherElement() {
        SideTreeText x = new Run().type(0, 29).deliverFirst(1, 29).play();
        x.insert(0, 0, 'b');
        checkDiffer("at place 0", x, 0, 1, 0);
        SideTreeText y = new Run().type(0, 28).deliverFirst(1, 28).play();
        y.insert(0, 28, 'b');
        y.insert(1, 28, 'b');
        checkDiffer("at the last place of both", y, 0, 1, 28);
        SideTreeText z = new Run().type(0, 5).deliverFirst(1, 5).play();
        z.erase(0, 2);
        checkDiffer("at an element that one has erased", z, 0, 1, 2);
        z.erase(1, 1);
        checkDiffer("at an earlier one", z, 0, 1, 1);
    }

    private static void differIsWhereOneOfThemEnds() {
        SideTreeText x = new Run().type(0, 30).play();
        checkDiffer("one is empty", x, 0, 1, 0);
        for (int n = 1; n < 30; n++) {
            x.deliver(1, 0);
            checkDiffer("one ends", x, 0, 1, n);
        }
        x.deliver(1, 0);
        checkDiffer("thirty each", x, 0, 1, NONE);
        x.erase(1, 29);
        checkDiffer("the last one is erased", x, 0, 1, 29);
    }

    private static void differGoesByElementsNotCharacters() {
        SideTreeText x = new SideTreeText();
        x.insert(0, 0, 'a');
        x.insert(1, 0, 'a');
        checkDiffer("the same character", x, 0, 1, 0);
        SideTreeText y = new Run().type(0, 1).deliver(1, 0).play();
        y.insert(0, 1, 'a');
        y.insert(1, 1, 'a');
        checkDiffer("the same characters behind", y, 0, 1, 1);
    }

    private static void differIsNoneWhenTheyAreTheSame() {
        SideTreeText none = new SideTreeText();
        SideTreeText x = new Run().type(0, 3).eraseFirst(0, 3).play();
        SideTreeText y = Situation.made30ByOne().run.play();
        for (int r = 0; r < 3; r++) {
            Check.due("two that are empty", none.differ(r, (r + 1) % 3), NONE);
            Check.due("with itself, empty", none.differ(r, r), NONE);
            Check.due("with itself", y.differ(r, r), NONE);
            Check.due("all erased and none known", x.differ(r, (r + 1) % 3), NONE);
        }
    }

    private static void differIsBadForEither() {
        SideTreeText x = new Run().type(0, 1).play();
        for (int no : new int[] {MIN, MIN + 1, -2, -1, 3, 4, MAX - 1, MAX}) {
            for (int r = 0; r < 3; r++) {
                Check.due("the first is " + no, x.differ(no, r), BAD);
                Check.due("the second is " + no, x.differ(r, no), BAD);
            }
            Check.due("both are " + no, x.differ(no, no), BAD);
        }
    }
}
