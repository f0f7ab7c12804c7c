import java.util.List;

/** The promises 1 to 16 one by one: ordinary inputs, the edges that the document names, wrong inputs. */
public final class PromisesTest {
    private static final int BAD = SideTreeText.BAD;
    private static final int FULL = SideTreeText.FULL;
    private static final int NONE = SideTreeText.NONE;
    private static final int[] NO_ELEMENTS = {-1, -3, 3, 30, Integer.MIN_VALUE, Integer.MAX_VALUE};

    public static void main(String[] args) {
        Check.test("Promise 1: A new object", PromisesTest::promise1);
        Check.test("Promise 1: objects are apart", PromisesTest::objectsAreApart);
        Check.test("Promise 2: insert", PromisesTest::promise2);
        Check.test("Promise 2: insert when it is FULL", PromisesTest::promise2Full);
        Check.test("Promise 3: erase", PromisesTest::promise3);
        Check.test("Promise 3: erase when it is FULL", PromisesTest::promise3Full);
        Check.test("Promise 4: deliver", PromisesTest::promise4);
        Check.test("Promise 5: length", PromisesTest::promise5);
        Check.test("Promise 6: shown", PromisesTest::promise6);
        Check.test("Promise 7: ordered", PromisesTest::promise7);
        Check.test("Promise 8: known", PromisesTest::promise8);
        Check.test("Promise 9: state", PromisesTest::promise9);
        Check.test("Promise 10: tray", PromisesTest::promise10);
        Check.test("Promise 11: waiting", PromisesTest::promise11);
        Check.test("Promise 12: message", PromisesTest::promise12);
        Check.test("Promise 13: made", PromisesTest::promise13);
        Check.test("Promise 14: about", PromisesTest::promise14);
        Check.test("Promise 15: depth", PromisesTest::promise15);
        Check.test("Promise 16: differ", PromisesTest::promise16);
        Check.end();
    }

    /** Replica 0 made the elements 0, 1, 2 in a row and erased 1; nothing is delivered. */
    private static SideTreeText threeWithOneErased() {
        return new Run().type(0, 3).erase(0, 1).play();
    }

    /** Replica 0 made 30 elements and erased 20 of them: both other trays have 50 messages. */
    private static SideTreeText fullTrays() {
        return Situation.bothTrays50AndMade30().run.play();
    }

    /** Two makers fill the tray of replica 2 with 50 messages while fewer than 30 elements are made. */
    private static SideTreeText fullTrayWithRoomForElements() {
        return Situation.slowTray(2, 50).run.play();
    }

    private static void promise1() {
        SideTreeText x = new SideTreeText();
        Check.due("made()", x.made(), 0);
        for (int r = 0; r < 3; r++) {
            Check.due("length", x.length(r), 0);
            Check.due("known", x.known(r), 0);
            Check.due("tray", x.tray(r), 0);
            Check.due("waiting", x.waiting(r), 0);
            Check.due("shown", x.shown(r, 0), NONE);
            Check.due("ordered", x.ordered(r, 0), NONE);
            Check.due("message", x.message(r, 0), NONE);
            Check.due("state", x.state(r, 0), 0);
            Check.due("differ", x.differ(r, (r + 1) % 3), NONE);
        }
    }

    private static void promise2() {
        SideTreeText x = new SideTreeText();
        Check.due("first", x.insert(1, 0, 'a'), 0);
        Check.due("known at once", x.state(1, 0), 1);
        Check.due("not known elsewhere", x.state(0, 0), 0);
        Check.due("at the end", x.insert(1, 1, 'b'), 1);
        Check.due("at the start", x.insert(1, 0, 'c'), 2);
        Check.due("between", x.insert(1, 2, 'd'), 3);
        Check.due("text", Probe.text(x, 1), List.of(2, 0, 3, 1));
        Check.due("tray 0", Probe.tray(x, 0), List.of(0, 1, 2, 3));
        Check.due("own tray", x.tray(1), 0);
        Check.due("tray 2", Probe.tray(x, 2), List.of(0, 1, 2, 3));
        Check.due("behind the end", x.insert(1, 5, 'x'), BAD);
        Check.due("before the start", x.insert(1, -1, 'x'), BAD);
        Check.due("far behind", x.insert(1, Integer.MAX_VALUE, 'x'), BAD);
        Check.due("far before", x.insert(1, Integer.MIN_VALUE, 'x'), BAD);
        x.erase(1, 0);
        Check.due("erased ones do not lengthen", x.insert(1, 4, 'x'), BAD);
        Check.due("at the new end", x.insert(1, 3, Integer.MIN_VALUE), 4);
        Check.due("any character", x.about(4, 1), Integer.MIN_VALUE);
    }

    private static void promise2Full() {
        SideTreeText x = new SideTreeText();
        for (int i = 0; i < 30; i++) {
            Check.due("insert " + i, x.insert(i % 3, 0, i), i);
        }
        Check.due("31st", x.insert(0, 0, 1), FULL);
        Check.due("31st elsewhere", x.insert(2, 10, 1), FULL);
        Check.due("BAD comes first", x.insert(2, 11, 1), BAD);

        SideTreeText y = fullTrayWithRoomForElements();
        Check.due("tray 2", y.tray(2), 50);
        Check.due("tray of another one", y.insert(0, 0, 1), FULL);
        Check.due("tray of another one", y.insert(1, 0, 1), FULL);
        Check.due("BAD comes first", y.insert(0, 1, 1), BAD);
        Check.due("its own tray does not count", y.insert(2, 0, 1), 20);
        Check.due("delivers one", y.deliver(2, 0), 1);
        Check.due("has room again", y.insert(0, 0, 1), 21);
        Check.due("full again", y.insert(0, 0, 1), FULL);
    }

    private static void promise3() {
        SideTreeText x = new SideTreeText();
        x.insert(0, 0, 'a');
        x.insert(0, 1, 'b');
        x.insert(0, 2, 'c');
        Check.due("erase", x.erase(0, 1), 1);
        Check.due("text", Probe.text(x, 0), List.of(0, 2));
        Check.due("state", x.state(0, 1), 2);
        Check.due("tray 1", Probe.tray(x, 1), List.of(0, 1, 2, -11));
        Check.due("tray 2", Probe.tray(x, 2), List.of(0, 1, 2, -11));
        Check.due("own tray", x.tray(0), 0);
        Check.due("place 1 is the next one now", x.erase(0, 1), 2);
        Check.due("behind the last", x.erase(0, 1), BAD);
        Check.due("before the first", x.erase(0, -1), BAD);
        Check.due("far behind", x.erase(0, Integer.MAX_VALUE), BAD);
        Check.due("far before", x.erase(0, Integer.MIN_VALUE), BAD);
        Check.due("the last one", x.erase(0, 0), 0);
        Check.due("of an empty text", x.erase(0, 0), BAD);
        Check.due("of a text without elements", x.erase(1, 0), BAD);
    }

    private static void promise3Full() {
        SideTreeText x = fullTrays();
        Check.due("tray 1", x.tray(1), 50);
        Check.due("tray 2", x.tray(2), 50);
        Check.due("both full", x.erase(0, 0), FULL);
        Check.due("BAD comes first", x.erase(0, 10), BAD);
        x.deliver(1, 0);
        Check.due("one full", x.erase(0, 0), FULL);
        Check.due("one full, from another one", x.erase(1, 0), FULL);
        x.deliver(2, 0);
        Check.due("none full", x.erase(0, 0), 20);
        Check.due("full again", x.tray(2), 50);

        SideTreeText y = fullTrayWithRoomForElements();
        Probe.deliverMaking(y, 2, 0);
        y.erase(1, 0);
        Check.due("tray 2", y.tray(2), 50);
        Check.due("its own tray does not count", y.erase(2, 0), 0);
    }

    private static void promise4() {
        SideTreeText x = threeWithOneErased();
        Check.due("behind the last", x.deliver(1, 4), BAD);
        Check.due("before the first", x.deliver(1, -1), BAD);
        Check.due("of an empty tray", x.deliver(0, 0), BAD);
        Check.due("the last one waits", x.deliver(1, 3), 0);
        Check.due("it left the tray", Probe.tray(x, 1), List.of(0, 1, 2));
        Check.due("one from the middle waits", x.deliver(1, 1), 0);
        Check.due("it left the tray", Probe.tray(x, 1), List.of(0, 2));
        Check.due("three take effect", x.deliver(1, 0), 3);
        Check.due("text", Probe.text(x, 1), List.of(0));
        Check.due("order", Probe.order(x, 1), List.of(0, 1));
        Check.due("one takes effect", x.deliver(1, 0), 1);
        Check.due("text", Probe.text(x, 1), List.of(0, 2));
        Check.due("the tray is empty", x.deliver(1, 0), BAD);
        Check.due("another tray is as it was", x.tray(2), 4);

        SideTreeText y = new SideTreeText();
        y.insert(0, 0, 'a');
        Probe.deliverAll(y, 1);
        y.erase(0, 0);
        y.erase(1, 0);
        Check.due("what is erased already takes effect too", y.deliver(0, 0), 1);
        Check.due("state", y.state(0, 0), 2);
        Check.due("a delivered message is not sent on", y.tray(2), 3);
    }

    private static void promise5() {
        SideTreeText x = threeWithOneErased();
        Check.due("without the erased", x.length(0), 2);
        Check.due("of another one", x.length(1), 0);
        x.deliver(1, 0);
        x.deliver(1, 0);
        Check.due("not erased there yet", x.length(1), 2);
        x.deliver(1, 1);
        Check.due("erased there", x.length(1), 1);
    }

    private static void promise6() {
        SideTreeText x = threeWithOneErased();
        Check.due("first", x.shown(0, 0), 0);
        Check.due("passes the erased", x.shown(0, 1), 2);
        Check.due("behind the last", x.shown(0, 2), NONE);
        Check.due("before the first", x.shown(0, -1), NONE);
        Check.due("far behind", x.shown(0, Integer.MAX_VALUE), NONE);
        Check.due("far before", x.shown(0, Integer.MIN_VALUE), NONE);
        Check.due("of another one", x.shown(2, 0), NONE);
    }

    private static void promise7() {
        SideTreeText x = threeWithOneErased();
        Check.due("first", x.ordered(0, 0), 0);
        Check.due("the erased too", x.ordered(0, 1), 1);
        Check.due("last", x.ordered(0, 2), 2);
        Check.due("behind the last", x.ordered(0, 3), NONE);
        Check.due("before the first", x.ordered(0, -1), NONE);
        Check.due("far behind", x.ordered(0, Integer.MAX_VALUE), NONE);
        Check.due("far before", x.ordered(0, Integer.MIN_VALUE), NONE);
        Check.due("of another one", x.ordered(2, 0), NONE);
    }

    private static void promise8() {
        SideTreeText x = threeWithOneErased();
        Check.due("the erased too", x.known(0), 3);
        Check.due("of another one", x.known(2), 0);
        x.deliver(2, 1);
        Check.due("a waiting one is not known", x.known(2), 0);
        x.deliver(2, 0);
        Check.due("two at once", x.known(2), 2);
    }

    private static void promise9() {
        SideTreeText x = threeWithOneErased();
        Check.due("known", x.state(0, 0), 1);
        Check.due("erased", x.state(0, 1), 2);
        Check.due("not known there", x.state(1, 0), 0);
        for (int element : NO_ELEMENTS) {
            Check.due("state(0, " + element + ")", x.state(0, element), 0);
        }
        x.deliver(1, 0);
        x.deliver(1, 0);
        Check.due("not erased there", x.state(1, 1), 1);
    }

    private static void promise10() {
        SideTreeText x = threeWithOneErased();
        Check.due("own", x.tray(0), 0);
        Check.due("of 1", x.tray(1), 4);
        x.deliver(1, 3);
        Check.due("one less, though it waits", x.tray(1), 3);
        x.insert(1, 0, 'z');
        Check.due("one more", x.tray(0), 1);
        Check.due("one more", x.tray(2), 5);
        Check.due("not into its own", x.tray(1), 3);
    }

    private static void promise11() {
        SideTreeText x = threeWithOneErased();
        Check.due("none", x.waiting(1), 0);
        x.deliver(1, 3);
        Check.due("one", x.waiting(1), 1);
        x.deliver(1, 2);
        Check.due("two", x.waiting(1), 2);
        x.deliver(1, 0);
        Check.due("still two", x.waiting(1), 2);
        x.deliver(1, 0);
        Check.due("none", x.waiting(1), 0);
        Check.due("of another one", x.waiting(2), 0);
    }

    private static void promise12() {
        SideTreeText x = threeWithOneErased();
        x.erase(0, 0);
        Check.due("making", x.message(1, 0), 0);
        Check.due("making", x.message(1, 2), 2);
        Check.due("erasing 1", x.message(1, 3), -11);
        Check.due("erasing 0", x.message(1, 4), -10);
        Check.due("behind the last", x.message(1, 5), NONE);
        Check.due("before the first", x.message(1, -1), NONE);
        Check.due("far behind", x.message(1, Integer.MAX_VALUE), NONE);
        Check.due("far before", x.message(1, Integer.MIN_VALUE), NONE);
        x.deliver(1, 3);
        Check.due("the next one moves up", x.message(1, 3), -10);
        Check.due("gone from the end", x.message(1, 4), NONE);
        SideTreeText y = fullTrays();
        Check.due("the 50th", y.message(2, 49), -29);
        Check.due("behind the 50th", y.message(2, 50), NONE);
    }

    private static void promise13() {
        SideTreeText x = threeWithOneErased();
        Check.due("the erased too", x.made(), 3);
        x.insert(2, 0, 'z');
        Check.due("of all replicas", x.made(), 4);
        x.deliver(2, 0);
        Check.due("delivering makes none", x.made(), 4);
        Check.due("most", fullTrays().made(), 30);
    }

    private static void promise14() {
        SideTreeText x = threeWithOneErased();
        Check.due("insert", x.insert(0, 1, -77), 3);
        x.insert(2, 0, Integer.MAX_VALUE);
        Check.due("replica", x.about(3, 0), 0);
        Check.due("character", x.about(3, 1), -77);
        Check.due("parent", x.about(3, 2), 1);
        Check.due("side", x.about(3, 3), 0);
        Check.due("right origin", x.about(3, 4), 1);
        Check.due("parent", x.about(2, 2), 1);
        Check.due("end though not below the root", x.about(2, 4), -1);
        Check.due("replica", x.about(4, 0), 2);
        Check.due("character", x.about(4, 1), Integer.MAX_VALUE);
        Check.due("root", x.about(4, 2), -1);
        Check.due("side", x.about(4, 3), 1);
        Check.due("end", x.about(4, 4), -1);
        for (int what : new int[] {-1, 5, Integer.MIN_VALUE, Integer.MAX_VALUE}) {
            Check.due("about(3, " + what + ")", x.about(3, what), NONE);
        }
        for (int what = 0; what < 5; what++) {
            Check.due("about(5, " + what + ")", x.about(5, what), NONE);
            Check.due("about(-1, " + what + ")", x.about(-1, what), NONE);
            Check.due("about(30, " + what + ")", x.about(30, what), NONE);
        }
        Probe.deliverAll(x, 0);
        Check.due("never changes", Probe.hang(x, 3), List.of(1, 0, 1));
    }

    private static void promise15() {
        SideTreeText x = threeWithOneErased();
        x.insert(2, 0, 'z');
        x.insert(0, 0, 'y');
        Check.due("below the root", x.depth(0), 0);
        Check.due("below one", x.depth(1), 1);
        Check.due("below two, one of them erased", x.depth(2), 2);
        Check.due("below the root", x.depth(3), 0);
        Check.due("on the left of one", x.depth(4), 1);
        for (int element : new int[] {-1, 5, 30, Integer.MIN_VALUE, Integer.MAX_VALUE}) {
            Check.due("depth(" + element + ")", x.depth(element), NONE);
        }
        Check.due("deepest", fullTrays().depth(29), 29);
    }

    private static void promise16() {
        SideTreeText x = new SideTreeText();
        x.insert(0, 0, 'a');
        x.insert(0, 1, 'b');
        Check.due("the other one is empty", x.differ(0, 1), 0);
        Check.due("the other way round", x.differ(1, 0), 0);
        Check.due("with itself", x.differ(0, 0), NONE);
        Check.due("two empty ones", x.differ(1, 2), NONE);
        x.deliver(1, 0);
        Check.due("the other one ends", x.differ(0, 1), 1);
        Check.due("the other way round", x.differ(1, 0), 1);
        x.insert(1, 1, 'b');
        Check.due("elements, not characters", x.differ(0, 1), 1);
        Probe.deliverAll(x, 0);
        Probe.deliverAll(x, 1);
        Check.due("the same", x.differ(0, 1), NONE);
        x.erase(0, 1);
        Check.due("erased here alone", x.differ(0, 1), 1);
        x.erase(1, 1);
        Check.due("erased on both sides", x.differ(0, 1), NONE);
        x.erase(1, 1);
        Check.due("the last one erased", x.differ(0, 1), 1);
    }

    private static void objectsAreApart() {
        SideTreeText old = threeWithOneErased();
        SideTreeText young = new SideTreeText();
        Check.due("a new one is empty", Probe.picture(young), Probe.picture(new SideTreeText()));
        for (int n = 0; n < 4; n++) {
            young.insert(1, 0, 200 + n);
        }
        young.erase(1, 3);
        young.deliver(2, 1);
        Check.due("the old one is as it was", Probe.picture(old), Probe.picture(threeWithOneErased()));
        Check.due("the young one's order", Probe.order(young, 1), List.of(3, 2, 1, 0));
        old.deliver(1, 0);
        old.insert(2, 0, 'z');
        Check.due("the young one's order is as it was", Probe.order(young, 1), List.of(3, 2, 1, 0));
        Check.due("and where its last one hangs", Probe.hang(young, 3), List.of(2, 0, 2));
        Check.due("and what waits there", young.waiting(2), 1);
    }
}
