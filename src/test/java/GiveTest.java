/** Promise 6: blocks are free again. */
public final class GiveTest {
    public static void main(String[] args) {
        Due due = new Due();
        ordinary(due);
        leastAndMost(due);
        wholeGroups(due);
        runsGrowTogether(due);
        reservedAreFree(due);
        oneIsFree(due);
        oneIsFixed(due);
        overTheEndsOfGroups(due);
        volumesEnd(due);
        refusedNumbers(due);
        refusedBlocks(due);
        argumentsFirst(due);
        due.end();
    }

    /** Four groups, all of them full, with nothing told. */
    private static GroupBitmaps full() {
        GroupBitmaps x = new GroupBitmaps();
        Seen.takeAll(x);
        x.settle();
        return x;
    }

    /** "n blocks, from one on, are free again ..: how many are free in all." */
    private static void ordinary(Due due) {
        GroupBitmaps x = full();
        due.is("give(20, 3)", 3, () -> x.give(20, 3));
        for (int block = 19; block <= 23; block++) {
            int asked = block;
            due.is("isTaken(0, " + block + ")", block == 19 || block == 23, () -> x.isTaken(0, asked));
        }
        due.is("give(1000, 2)", 5, () -> x.give(1000, 2));
        due.is("free blocks of 0", 3, () -> x.group(0, 2));
        due.is("free blocks of 1", 0, () -> x.group(1, 2));
        due.is("free blocks of 3", 2, () -> x.group(3, 2));
        due.is("one of them is taken again", 1001, () -> x.take(1001, 1, false));
        due.is("and given again", 5, () -> x.give(1001, 1));
    }

    /** "n is not 1 .. 1,024" on the side where it is: 1,024 blocks always have fixed ones. */
    private static void leastAndMost(Due due) {
        GroupBitmaps x = full();
        due.is("give(12, 1), the first that is not fixed", 1, () -> x.give(12, 1));
        due.is("give(255, 1), the last of its group", 2, () -> x.give(255, 1));
        due.is("give(1023, 1), the last of all", 3, () -> x.give(1023, 1));
        due.failsWhole("give(0, 1024), all of the volume", GiveTest::full, y -> y.give(0, 1024));
        due.failsWhole("give(1, 1023), all but the first", GiveTest::full, y -> y.give(1, 1023));
        due.refusesWhole("give(1, 1024), one more than there are", GiveTest::full, y -> y.give(1, 1024));
    }

    private static void wholeGroups(Due due) {
        GroupBitmaps x = full();
        due.is("give(12, 244)", 244, () -> x.give(12, 244));
        due.is("give(268, 244)", 488, () -> x.give(268, 244));
        due.is("give(522, 246)", 734, () -> x.give(522, 246));
        due.is("give(780, 244)", 978, () -> x.give(780, 244));
        due.is("free blocks of 2", 246, () -> x.group(2, 2));
    }

    private static void runsGrowTogether(Due due) {
        GroupBitmaps x = full();
        x.give(20, 3);
        x.give(24, 4);
        due.is("two runs", 4, () -> x.group(0, 5));
        x.give(23, 1);
        due.is("one run", 8, () -> x.group(0, 5));
        due.is("all of it is taken again", 20, () -> x.take(0, 8, false));
    }

    /** What is free in all has the reserved ones, too. */
    private static void reservedAreFree(Due due) {
        GroupBitmaps x = full();
        x.reserve(100);
        due.is("give(30, 5)", 5, () -> x.give(30, 5));
    }

    /** "IllegalStateException: one of them is free ..(then none is given)." */
    private static void oneIsFree(Due due) {
        Due.Setup setup = () -> {
            GroupBitmaps x = full();
            x.give(30, 1);
            x.settle();
            return x;
        };
        due.failsWhole("give(30, 1): itself", setup, x -> x.give(30, 1));
        due.failsWhole("give(30, 5): the first", setup, x -> x.give(30, 5));
        due.failsWhole("give(28, 5): one between", setup, x -> x.give(28, 5));
        due.failsWhole("give(26, 5): the last", setup, x -> x.give(26, 5));
        due.is("give(25, 5): just before it", 6, () -> setup.volume().give(25, 5));
        due.is("give(31, 5): just behind it", 6, () -> setup.volume().give(31, 5));
        GroupBitmaps x = full();
        x.give(40, 2);
        due.fails("give(40, 2) twice", () -> x.give(40, 2));
        due.fails("give(12, 1) of a new object", () -> new GroupBitmaps().give(12, 1));
    }

    /** "Or fixed (then none is given)." */
    private static void oneIsFixed(Due due) {
        for (int g = 0; g < 4; g++) {
            int first = 256 * g;
            int fixed = Make.fixed(g);
            due.failsWhole("give() of the first of " + g, GiveTest::full, x -> x.give(first, 1));
            due.failsWhole("give() of the last fixed one of " + g, GiveTest::full, x -> x.give(first + fixed - 1, 1));
            due.failsWhole("give() of it and the next", GiveTest::full, x -> x.give(first + fixed - 1, 2));
            due.failsWhole("give() of all of " + g, GiveTest::full, x -> x.give(first, 256));
            due.is("give() behind the fixed of " + g, 1, () -> full().give(first + fixed, 1));
        }
    }

    /** "Also over the ends of groups": there the next group begins with fixed blocks, so none is given. */
    private static void overTheEndsOfGroups(Due due) {
        for (int end = 256; end < 1024; end += 256) {
            int last = end - 1;
            due.failsWhole("give(" + last + ", 2)", GiveTest::full, x -> x.give(last, 2));
            due.failsWhole("give(" + last + ", 14)", GiveTest::full, x -> x.give(last, 14));
            due.is("give(" + last + ", 1)", 1, () -> full().give(last, 1));
        }
        due.failsWhole("give(12, 1012)", GiveTest::full, x -> x.give(12, 1012));
    }

    /** "One of them is no block of a group": those behind the volume's end. */
    private static void volumesEnd(Due due) {
        for (int groups = 1; groups <= 4; groups++) {
            for (int last : new int[] {16, 100, 256}) {
                int count = groups;
                int end = 256 * (groups - 1) + last;
                Due.Setup setup = () -> {
                    GroupBitmaps x = Make.laid(count, last);
                    Seen.takeAll(x);
                    x.settle();
                    return x;
                };
                String name = "lay(" + groups + ", " + last + "): give(";
                due.is(name + (end - 4) + ", 4)", 4, () -> setup.volume().give(end - 4, 4));
                due.refusesWhole(name + (end - 4) + ", 5)", setup, x -> x.give(end - 4, 5));
                due.refusesWhole(name + (end - 1) + ", 1024)", setup, x -> x.give(end - 1, 1024));
                due.refusesWhole(name + end + ", 1)", setup, x -> x.give(end, 1));
                due.refusesWhole(name + "1024, 1)", setup, x -> x.give(1024, 1));
            }
        }
    }

    /** "IllegalArgumentException: n is not 1 .. 1,024." */
    private static void refusedNumbers(Due due) {
        for (int n : new int[] {0, 1025, -1, -1024, Integer.MIN_VALUE, Integer.MAX_VALUE}) {
            due.refusesWhole("give(20, " + n + ")", GiveTest::full, x -> x.give(20, n));
            due.refusesWhole("give(0, " + n + ")", GiveTest::full, x -> x.give(0, n));
            due.refusesWhole("give(1023, " + n + ")", GiveTest::full, x -> x.give(1023, n));
        }
    }

    /** Sums of block and n that do not fit an int are refused, too. */
    private static void refusedBlocks(Due due) {
        for (int block : Due.FAR) {
            for (int n : new int[] {1, 2, 1024}) {
                due.refusesWhole("give(" + block + ", " + n + ")", GiveTest::full, x -> x.give(block, n));
            }
        }
        due.refusesWhole("give(-1, 22)", GiveTest::full, x -> x.give(-1, 22));
        due.refusesWhole("give(1024 - MAX, 1)", GiveTest::full, x -> x.give(1024 - Integer.MAX_VALUE, 1));
    }

    /** Where one is no block and another free or fixed, the arguments are wrong. */
    private static void argumentsFirst(Due due) {
        Due.Setup small = () -> Make.settled(2, 100);
        due.refusesWhole("give(355, 2): the first is free", small, x -> x.give(355, 2));
        due.refusesWhole("give(0, 357): the first is fixed", small, x -> x.give(0, 357));
        due.failsWhole("give(0, 356): all are blocks", small, x -> x.give(0, 356));
        due.refusesWhole("give(0, 1024)", small, x -> x.give(0, 1024));
        due.refusesWhole("give(0, 0)", small, x -> x.give(0, 0));
        due.refusesWhole("give(512, 1): a group that is no more", small, x -> x.give(512, 1));
        due.refusesWhole("give(530, 1): a group that is no more", () -> {
            GroupBitmaps x = new GroupBitmaps();
            x.take(530, 1, false);
            x.lay(2, 100);
            return x;
        }, x -> x.give(530, 1));
    }
}
