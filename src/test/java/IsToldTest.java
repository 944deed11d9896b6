/** Promise 12, and "what is told as changed by a call". */
public final class IsToldTest {
    public static void main(String[] args) {
        Due due = new Due();
        firstAndLastBlock(due);
        takeTells(due);
        giveTells(due);
        filesTell(due);
        layTells(due);
        toldOfSeveralCalls(due);
        callsThatChangeNothing(due);
        callsThatThrow(due);
        thrownBehindTold(due);
        blocksOfNoGroup(due);
        refused(due);
        due.end();
    }

    /** Of all blocks these are told, and no other one. */
    private static void told(Due due, String call, Due.Setup setup, int... blocks) {
        Lookers all = new Lookers(setup);
        for (int b = 0; b < 1024; b++) {
            boolean want = false;
            for (int one : blocks) {
                want |= one == b;
            }
            int block = b;
            due.is("behind " + call + ": isTold(" + b + ")", want, () -> all.next().isTold(block));
        }
    }

    /** A setup, all told blocks of it settled, and one call more. */
    private static Due.Setup then(Due.Setup setup, Due.Use use) {
        return () -> {
            GroupBitmaps x = setup.volume();
            x.settle();
            Due.answerOf(() -> use.on(x));
            return x;
        };
    }

    /** They are no bitmaps, so they are never told. */
    private static void firstAndLastBlock(Due due) {
        GroupBitmaps x = new GroupBitmaps();
        due.is("isTold(0)", false, () -> x.isTold(0));
        due.is("isTold(1023)", false, () -> x.isTold(1023));
        x.take(1023, 1, false);
        x.give(1023, 1);
        due.is("isTold(1023), taken and given", false, () -> x.isTold(1023));
    }

    /** "The bitmaps that it changes, and block 1." */
    private static void takeTells(Due due) {
        int[] bitmaps = {2, 258, 512, 770};
        for (int g = 0; g < 4; g++) {
            int goal = 256 * g + 50;
            told(due, "take(" + goal + ", 4)", then(GroupBitmaps::new, x -> x.take(goal, 4, false)), 1, bitmaps[g]);
        }
        Due.Setup fullOne = () -> {
            GroupBitmaps x = new GroupBitmaps();
            Make.fillBlocks(x, 1);
            return x;
        };
        told(due, "take() in the next group", then(fullOne, x -> x.take(300, 1, false)), 1, 512);
        told(due, "take() of the longest run", then(GroupBitmaps::new, x -> x.take(20, 256, true)), 1, 512);
    }

    private static void giveTells(Due due) {
        int[] bitmaps = {2, 258, 512, 770};
        for (int g = 0; g < 4; g++) {
            int block = 256 * g + 50;
            Due.Setup setup = () -> {
                GroupBitmaps x = new GroupBitmaps();
                x.take(block, 4, false);
                return x;
            };
            told(due, "give(" + block + ", 4)", then(setup, x -> x.give(block, 4)), 1, bitmaps[g]);
        }
    }

    private static void filesTell(Due due) {
        int[] bitmaps = {3, 259, 513, 771};
        int[] first = {11, 129, 257, 385};
        for (int g = 0; g < 4; g++) {
            int file = first[g];
            for (boolean folder : new boolean[] {false, true}) {
                Due.Setup setup = () -> {
                    GroupBitmaps x = new GroupBitmaps();
                    x.takeFile(file, folder);
                    return x;
                };
                String call = "(" + file + ", " + folder + ")";
                told(due, "takeFile" + call, then(GroupBitmaps::new, x -> x.takeFile(file, folder)), 1, bitmaps[g]);
                told(due, "giveFile" + call, then(setup, x -> x.giveFile(file, folder)), 1, bitmaps[g]);
            }
        }
        told(due, "takeFile(2, true): of group 1", then(GroupBitmaps::new, x -> x.takeFile(2, true)), 1, 259);
    }

    private static void layTells(Due due) {
        told(due, "lay(1, 16)", then(GroupBitmaps::new, x -> x.lay(1, 16)), 1, 2, 3);
        told(due, "lay(3, 16)", then(GroupBitmaps::new, x -> x.lay(3, 16)), 1, 2, 3, 258, 259, 512, 513);
        told(due, "lay(4, 256)", then(() -> Make.laid(1, 16), x -> x.lay(4, 256)), 1, 2, 3, 258, 259, 512, 513, 770, 771);
    }

    /** "Since the latest settle() (or the beginning)." */
    private static void toldOfSeveralCalls(Due due) {
        Due.Setup several = () -> {
            GroupBitmaps x = new GroupBitmaps();
            x.settle();
            x.take(300, 4, false);
            x.takeFile(385, true);
            x.give(300, 4);
            return x;
        };
        told(due, "three calls", several, 1, 258, 771);
        told(due, "settle()", then(several, x -> 0));
        told(due, "settle() and one call more", then(several, x -> x.giveFile(385, true)), 1, 771);
        told(due, "the beginning", GroupBitmaps::new, 1, 2, 3, 258, 259, 512, 513, 770, 771);
    }

    private static void callsThatChangeNothing(Due due) {
        GroupBitmaps x = Make.used();
        x.settle();
        x.reserve(0);
        x.reserve(100);
        x.taken();
        x.isTaken(0, 300);
        x.isTaken(1, 11);
        x.group(1, 5);
        x.byteOf(1, 5);
        x.byteOf(258, 5);
        x.isTold(1);
        due.is("settle() behind them", 0, x::settle);
    }

    /** "Nothing if it throws." */
    private static void callsThatThrow(Due due) {
        Due.Use[] calls = {
            x -> x.lay(0, 16), x -> x.lay(4, 257), x -> x.reserve(101), x -> x.take(612, 1, true),
            x -> x.take(0, 0, true), x -> x.give(0, 0), x -> x.give(611, 2), x -> x.give(300, 6),
            x -> x.give(267, 2), x -> x.takeFile(385, true), x -> x.takeFile(0, false), x -> x.giveFile(10, false),
            x -> x.giveFile(12, false), x -> x.giveFile(257, true), x -> x.isTaken(2, 1), x -> x.group(3, 0),
            x -> x.byteOf(1, 4096), x -> x.isTold(1024),
        };
        for (int k = 0; k < calls.length; k++) {
            Due.Use call = calls[k];
            GroupBitmaps x = Make.used();
            x.settle();
            due.is("call " + k + " throws", true, () -> Due.answerOf(() -> call.on(x)) instanceof String);
            due.is("settle() behind call " + k, 0, x::settle);
        }
        told(due, "take() that may take none", then(() -> reservedWhole(), x -> x.take(12, 1, false)));
    }

    private static GroupBitmaps reservedWhole() {
        GroupBitmaps x = Make.laid(1, 20);
        x.reserve(8);
        return x;
    }

    /** A call that throws leaves what was told before. */
    private static void thrownBehindTold(Due due) {
        GroupBitmaps x = new GroupBitmaps();
        x.settle();
        x.take(300, 2, false);
        due.fails("give(300, 3)", () -> x.give(300, 3));
        due.refuses("lay(5, 16)", () -> x.lay(5, 16));
        due.is("isTold(258)", true, () -> x.isTold(258));
        due.is("isTold(1)", true, () -> x.isTold(1));
        due.is("settle()", 2, x::settle);
    }

    /** "There is none" is said of the blocks 0 .. 1,023: those of no group are there. */
    private static void blocksOfNoGroup(Due due) {
        Due.Setup small = () -> {
            GroupBitmaps x = new GroupBitmaps();
            x.settle();
            x.takeFile(385, false);
            x.lay(1, 16);
            return x;
        };
        told(due, "lay(1, 16) with a bitmap told before", small, 1, 2, 3, 771);
        told(due, "settle() of it", then(small, x -> 0));
    }

    /** "IndexOutOfBoundsException: there is none": those beside 0 and 1,023. */
    private static void refused(Due due) {
        for (int block : new int[] {-1, 1024, 1025, -1024, Integer.MIN_VALUE, Integer.MAX_VALUE}) {
            due.misses("isTold(" + block + ")", () -> new GroupBitmaps().isTold(block));
            due.misses("isTold(" + block + ") of a small volume", () -> Make.settled(1, 16).isTold(block));
            due.changesNothing("isTold(" + block + ")", Due.MISSED, Make::used, x -> x.isTold(block));
        }
    }
}
