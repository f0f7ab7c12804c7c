import java.util.ArrayList;
import java.util.Collections;
import java.util.List;
import java.util.Random;

/**
 * The document's first sentence: messages come late and in any order, whoever knows the same changes shows the
 * same text, and what was typed in one go stands together in it. The seeds are fixed.
 */
public final class WhatItIsTest {
    private static final int SEEDS = 300;

    public static void main(String[] args) {
        Check.test("What it is: messages that come last first lead to the same text",
                WhatItIsTest::lastMessageFirst);
        Check.test("What it is: all changes in any order show the same text",
                WhatItIsTest::allChangesInAnyOrder);
        Check.test("What it is: some of the changes in any order show the same text",
                WhatItIsTest::someChangesInAnyOrder);
        Check.test("What it is: what three typed at the start stands together",
                WhatItIsTest::typedAtTheStartStandsTogether);
        Check.test("What it is: what was typed in one go stands together",
                WhatItIsTest::typedInOneGoStandsTogether);
        Check.end();
    }

    private static void lastMessageFirst() {
        SideTreeText x = new SideTreeText();
        for (int i = 0; i < 4; i++) {
            x.insert(0, i / 2, i);
            x.insert(1, 0, i);
            x.erase(1, 0);
            x.insert(1, 0, i);
        }
        for (int left = x.tray(2); left > 0; left--) {
            x.deliver(2, left - 1);
        }
        Probe.deliverAll(x, 0);
        Probe.deliverAll(x, 1);
        Check.due("length", x.length(2), 8);
        checkSame("in the end", x, 0, 2);
        checkSame("in the end", x, 1, 2);
    }

    private static void checkSame(String when, SideTreeText x, int one, int other) {
        String of = when + ", " + one + " and " + other + ": ";
        Check.due(of + "differ", x.differ(one, other), SideTreeText.NONE);
        Check.due(of + "orders", Probe.order(x, one), Probe.order(x, other));
        for (int e = 0, made = x.made(); e < made; e++) {
            Check.due(of + "state of " + e, x.state(one, e), x.state(other, e));
        }
    }

    private static void deliverInAnyOrder(SideTreeText x, int replica, Random random) {
        for (int left = x.tray(replica); left > 0; left--) {
            x.deliver(replica, random.nextInt(left));
        }
    }

    private static void changeOrDeliver(SideTreeText x, int r, Random random) {
        int length = x.length(r);
        int pick = random.nextInt(10);
        if (pick < 5) {
            x.insert(r, random.nextInt(length + 1), pick);
        } else if (pick < 7) {
            x.erase(r, random.nextInt(length + 1));
        } else {
            x.deliver(r, random.nextInt(x.tray(r) + 1));
        }
    }

    private static void allChangesInAnyOrder() {
        for (int seed = 0; seed < SEEDS; seed++) {
            Random random = new Random(seed);
            SideTreeText x = new SideTreeText();
            for (int n = 0; n < 40; n++) {
                changeOrDeliver(x, random.nextInt(3), random);
            }
            for (int r = 0; r < 3; r++) {
                deliverInAnyOrder(x, r, random);
                Check.due("seed " + seed + ": all are known to " + r, x.known(r), x.made());
                Check.due("seed " + seed + ": none waits at " + r, x.waiting(r), 0);
            }
            checkSame("seed " + seed, x, 0, 1);
            checkSame("seed " + seed, x, 1, 2);
        }
    }

    private static void someChangesInAnyOrder() {
        for (int seed = 0; seed < SEEDS; seed++) {
            Random random = new Random(seed);
            SideTreeText x = new SideTreeText();
            for (int n = 0; n < 25; n++) {
                changeOrDeliver(x, 2, random);
            }
            List<Integer> some = Probe.tray(x, 0);
            Collections.shuffle(some, random);
            some = new ArrayList<>(some.subList(0, some.size() / 2));
            deliverThese(x, 0, some);
            Collections.shuffle(some, random);
            deliverThese(x, 1, some);
            Check.due("seed " + seed + ": so many wait", x.waiting(0), x.waiting(1));
            checkSame("seed " + seed, x, 0, 1);
        }
    }

    private static void deliverThese(SideTreeText x, int replica, List<Integer> messages) {
        List<Integer> tray = Probe.tray(x, replica);
        for (Integer message : messages) {
            int k = tray.indexOf(message);
            tray.remove(k);
            x.deliver(replica, k);
        }
    }

    private static void typedAtTheStartStandsTogether() {
        SideTreeText x = new SideTreeText();
        for (int i = 0; i < 4; i++) {
            x.insert(2, i, 'a');
            x.insert(0, 0, 'b');
            x.insert(1, i, 'c');
        }
        for (int r = 0; r < 3; r++) {
            Probe.deliverAll(x, r);
            Check.due("text of " + r, Probe.text(x, r), List.of(10, 7, 4, 1, 2, 5, 8, 11, 0, 3, 6, 9));
        }
    }

    /** All know the same text, in which some are erased; then each one types in a row, there or elsewhere. */
    private static void typedInOneGoStandsTogether() {
        for (int seed = 0; seed < SEEDS; seed++) {
            Random random = new Random(seed);
            SideTreeText x = commonText(random);
            int length = x.length(0);
            int samePlace = random.nextInt(length + 1);
            List<List<Integer>> rows = new ArrayList<>();
            for (int r = 0; r < 3; r++) {
                int place = seed % 2 == 0 ? samePlace : random.nextInt(length + 1);
                rows.add(typeInOneGo(x, r, place, random));
            }
            for (int r = 0; r < 3; r++) {
                deliverInAnyOrder(x, r, random);
                List<Integer> order = Probe.order(x, r);
                for (List<Integer> row : rows) {
                    boolean together = Collections.indexOfSubList(order, row) >= 0;
                    Check.due("seed " + seed + ": " + row + " together in " + order, together, true);
                }
            }
        }
    }

    private static SideTreeText commonText(Random random) {
        SideTreeText x = new SideTreeText();
        int changes = random.nextInt(10);
        for (int n = 0; n < changes; n++) {
            changeOrDeliver(x, random.nextInt(3), random);
        }
        for (int r = 0; r < 3; r++) {
            deliverInAnyOrder(x, r, random);
        }
        return x;
    }

    /** Types forwards, or backwards at one place; answers the elements as they stand in the text. */
    private static List<Integer> typeInOneGo(SideTreeText x, int replica, int place, Random random) {
        boolean forwards = random.nextBoolean();
        int many = 2 + random.nextInt(4);
        List<Integer> row = new ArrayList<>();
        for (int n = 0; n < many; n++) {
            int element = x.insert(replica, forwards ? place + n : place, n);
            row.add(forwards ? n : 0, element);
        }
        return row;
    }
}
