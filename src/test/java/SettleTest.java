/** Promise 13: no block is told any more. */
public final class SettleTest {
    private static final int[] ALL = {1, 2, 3, 258, 259, 512, 513, 770, 771};

    public static void main(String[] args) {
        Due due = new Due();
        everythingTold(due);
        nothingTold(due);
        eachBlockOnce(due);
        groupsThatAreNoMore(due);
        callsThatThrow(due);
        changesNothingElse(due);
        due.end();
    }

    /** "How many were": block 1 and eight bitmaps are all that can be. */
    private static void everythingTold(Due due) {
        GroupBitmaps x = new GroupBitmaps();
        due.is("settle() of a new object", 9, x::settle);
        for (int block : ALL) {
            due.is("isTold(" + block + ")", false, () -> x.isTold(block));
        }
        for (int g = 0; g < 4; g++) {
            x.take(256 * g + 20, 1, false);
            x.takeFile(128 * g + 1, false);
        }
        for (int block : ALL) {
            due.is("isTold(" + block + ") behind a call for each", true, () -> x.isTold(block));
        }
        due.is("settle() of all by calls", 9, x::settle);
        x.lay(4, 256);
        due.is("settle() of all by lay()", 9, x::settle);
    }

    private static void nothingTold(Due due) {
        GroupBitmaps x = new GroupBitmaps();
        x.settle();
        due.is("settle() behind settle()", 0, x::settle);
        due.is("settle() once more", 0, x::settle);
        x.reserve(5);
        x.isTaken(0, 1);
        due.is("settle() behind calls that change nothing", 0, x::settle);
    }

    private static void eachBlockOnce(Due due) {
        GroupBitmaps x = new GroupBitmaps();
        x.settle();
        x.take(300, 4, false);
        x.take(310, 4, false);
        x.give(300, 2);
        due.is("one bitmap three times, and block 1", 2, x::settle);
        x.take(20, 1, false);
        x.take(600, 1, false);
        x.takeFile(129, false);
        x.giveFile(129, false);
        due.is("three bitmaps, and block 1", 4, x::settle);
        due.is("none behind it", 0, x::settle);
    }

    /** "No block (of 0 .. 1,023)": also those of groups that there are no more. */
    private static void groupsThatAreNoMore(Due due) {
        GroupBitmaps x = new GroupBitmaps();
        x.settle();
        x.take(800, 1, false);
        x.takeFile(385, false);
        x.lay(1, 16);
        due.is("two of old groups, two of its own, and block 1", 5, x::settle);
        due.is("isTold(770)", false, () -> x.isTold(770));
        due.is("isTold(771)", false, () -> x.isTold(771));
        due.is("settle() behind it", 0, x::settle);
        x.lay(4, 16);
        due.is("settle() of four groups again", 9, x::settle);
    }

    private static void callsThatThrow(Due due) {
        GroupBitmaps x = Make.settled(2, 30);
        due.fails("give(12, 1)", () -> x.give(12, 1));
        due.refuses("lay(0, 30)", () -> x.lay(0, 30));
        due.is("settle() behind calls that throw", 0, x::settle);
    }

    /** Only what is told: not the bytes, the counts, taken(), or what is reserved. */
    private static void changesNothingElse(Due due) {
        GroupBitmaps x = Make.used();
        GroupBitmaps y = Make.used();
        x.settle();
        due.is("what is seen but for the told blocks", withoutTold(Seen.of(y)), () -> withoutTold(Seen.of(x)));
    }

    private static String withoutTold(String seen) {
        return seen.replaceFirst("told[ 0-9]*;", "");
    }
}
