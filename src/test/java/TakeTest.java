/** Promise 4, and "to take n blocks at a goal": what may be taken, the goal itself, and what is refused. */
public final class TakeTest {
    public static void main(String[] args) {
        Due due = new Due();
        anyGoal(due);
        leastAndMost(due);
        toTheGroupsEnd(due);
        toAShortGroupsEnd(due);
        oneIsTaken(due);
        goalIsFixed(due);
        lessIsLeft(due);
        lessIsLeftInPieces(due);
        lessWithoutReserved(due);
        reservedOnes(due);
        noneMayBeTaken(due);
        refusedGoals(due);
        refusedNumbers(due);
        due.end();
    }

    /** "The goal may be any block of a group, taken or fixed." */
    private static void anyGoal(Due due) {
        for (int goal = 0; goal < 612; goal++) {
            GroupBitmaps x = Make.laid(3, 100);
            int asked = goal;
            int firstFree = goal / 256 * 256 + Make.fixed(goal / 256);
            int want = Math.max(goal, firstFree);
            due.is("take(" + goal + ", 1)", want, () -> x.take(asked, 1, false));
            due.is("isTaken(0, " + want + ")", true, () -> x.isTaken(0, want));
            due.is("take(" + goal + ", 1) again", shorterBeside(want, firstFree), () -> x.take(asked, 1, false));
        }
    }

    /** Where the shorter of the two runs beside a taken block begins, the first if they are the same. */
    private static int shorterBeside(int taken, int firstFree) {
        int end = taken < 512 ? taken / 256 * 256 + 256 : 612;
        int before = taken - firstFree;
        int behind = end - taken - 1;
        return before == 0 || behind > 0 && behind < before ? taken + 1 : firstFree;
    }

    /** "n is not 1 .. 256" on the side where it is. */
    private static void leastAndMost(Due due) {
        GroupBitmaps x = new GroupBitmaps();
        due.is("take(30, 1)", 30, () -> x.take(30, 1, false));
        due.is("taken() of one", 1, x::taken);
        due.is("free blocks of 0", 243, () -> x.group(0, 2));
        due.is("take(268, 244): all of a group", 268, () -> x.take(268, 244, false));
        due.is("taken() of 244", 244, x::taken);
        due.is("take(780, 256): the longest there is", 522, () -> x.take(780, 256, false));
        due.is("taken() of 256", 246, x::taken);
        due.is("free blocks of 2", 0, () -> x.group(2, 2));
        due.is("free blocks of 3", 244, () -> x.group(3, 2));
    }

    /** "If the goal and the n - 1 blocks behind it are free and of one group, these are taken." */
    private static void toTheGroupsEnd(Due due) {
        GroupBitmaps x = new GroupBitmaps();
        due.is("take(246, 10): to the end", 246, () -> x.take(246, 10, false));
        for (int block = 245; block <= 256; block++) {
            int asked = block;
            due.is("isTaken(0, " + block + ")", block != 245, () -> x.isTaken(0, asked));
        }
        due.is("take(503, 10): over the end", 268, () -> x.take(503, 10, false));
        due.is("take(767, 1): the last of 2", 767, () -> x.take(767, 1, false));
        due.is("take(1023, 2): over the volume's end", 780, () -> x.take(1023, 2, false));
        due.is("take(1023, 1): the volume's last", 1023, () -> x.take(1023, 1, false));
    }

    private static void toAShortGroupsEnd(Due due) {
        GroupBitmaps x = Make.laid(2, 100);
        due.is("take(347, 10): over the end", 268, () -> x.take(347, 10, false));
        due.is("take(346, 10): to the end", 346, () -> x.take(346, 10, false));
        due.is("taken()", 10, x::taken);
        due.is("take(345, 2): the last one is taken", 278, () -> x.take(345, 2, false));
        due.is("take(344, 2)", 344, () -> x.take(344, 2, false));
    }

    private static void oneIsTaken(Due due) {
        Due.Setup one = () -> {
            GroupBitmaps x = new GroupBitmaps();
            x.take(109, 1, false);
            return x;
        };
        due.is("take(100, 9): just before it", 100, () -> one.volume().take(100, 9, false));
        due.is("take(100, 10): the last is taken", 12, () -> one.volume().take(100, 10, false));
        due.is("take(105, 10): one between is taken", 12, () -> one.volume().take(105, 10, false));
        due.is("take(109, 1): the goal is taken", 12, () -> one.volume().take(109, 1, false));
        due.is("take(109, 2): the goal is taken", 12, () -> one.volume().take(109, 2, false));
        due.is("take(110, 2): just behind it", 110, () -> one.volume().take(110, 2, false));
        due.is("take(109, 98): only the longer run", 110, () -> one.volume().take(109, 98, false));
        due.is("take(109, 97): the shorter run", 12, () -> one.volume().take(109, 97, false));
    }

    /** Not the blocks next to the goal, but the shortest run. */
    private static void goalIsFixed(Due due) {
        Due.Setup two = () -> {
            GroupBitmaps x = new GroupBitmaps();
            x.take(60, 1, false);
            x.take(100, 1, false);
            return x;
        };
        due.is("take(11, 2)", 61, () -> two.volume().take(11, 2, false));
        due.is("take(0, 1)", 61, () -> two.volume().take(0, 1, false));
        due.is("take(11, 40)", 12, () -> two.volume().take(11, 40, false));
        due.is("take(12, 2)", 12, () -> two.volume().take(12, 2, false));
    }

    /** "n becomes what may be taken, if that is less", before the goal is looked at. */
    private static void lessIsLeft(Due due) {
        for (int n = 7; n <= 9; n++) {
            GroupBitmaps x = Make.laid(1, 20);
            int asked = n;
            due.is("take(12, " + n + ") of 8", 12, () -> x.take(12, asked, false));
            due.is("taken()", Math.min(n, 8), x::taken);
        }
        GroupBitmaps x = Make.laid(1, 20);
        x.take(12, 5, false);
        due.is("take(17, 256) of 3, at the goal", 17, () -> x.take(17, 256, false));
        due.is("taken() of 3", 3, x::taken);
        GroupBitmaps y = Make.laid(2, 16);
        Make.fillBlocks(y, 0);
        due.is("take(0, 256) of 4 in the next group", 268, () -> y.take(0, 256, false));
        due.is("taken() of 4", 4, y::taken);
    }

    /** What is left is no run of n: "the longest run of all ..: all of it". */
    private static void lessIsLeftInPieces(Due due) {
        GroupBitmaps x = Make.laid(1, 20);
        x.take(12, 8, false);
        x.give(12, 1);
        x.give(14, 2);
        x.give(18, 1);
        due.is("take(12, 4) of 1, 2 and 1", 14, () -> x.take(12, 4, false));
        due.is("taken()", 2, x::taken);
        due.is("take(18, 4) of 1 and 1", 12, () -> x.take(18, 4, false));
        due.is("taken() then", 1, x::taken);
        due.is("take(13, 4) of 1", 18, () -> x.take(13, 4, false));
        due.fails("take(13, 4) of none", () -> x.take(13, 4, false));
    }

    /** "All free blocks, less those that are RESERVED." */
    private static void lessWithoutReserved(Due due) {
        GroupBitmaps x = Make.laid(1, 20);
        x.reserve(6);
        due.is("take(18, 5): two may be taken, at the goal", 18, () -> x.take(18, 5, false));
        due.is("taken() of two", 2, x::taken);
        due.fails("six left are reserved", () -> x.take(12, 1, false));
        GroupBitmaps y = Make.laid(1, 40);
        y.take(12, 28, false);
        y.give(12, 6);
        y.give(20, 3);
        y.give(30, 4);
        y.reserve(10);
        due.is("take(13, 20): the goal and two behind it", 13, () -> y.take(13, 20, false));
        y.give(13, 3);
        due.is("take(0, 20): the shortest run of three", 20, () -> y.take(0, 20, false));
        due.is("taken() of three", 3, y::taken);
        due.fails("ten left are reserved", () -> y.take(0, 20, false));
    }

    /** "All: reserved ones may be, too"; "their number stays". */
    private static void reservedOnes(Due due) {
        GroupBitmaps x = Make.laid(1, 20);
        x.reserve(100);
        due.is("take(12, 3, true)", 12, () -> x.take(12, 3, true));
        due.is("taken()", 3, x::taken);
        due.fails("take(15, 1, false)", () -> x.take(15, 1, false));
        due.is("take(15, 256, true)", 15, () -> x.take(15, 256, true));
        due.is("taken() of the rest", 5, x::taken);
        x.give(12, 8);
        due.fails("take(12, 1, false), all given", () -> x.take(12, 1, false));
    }

    /** "IllegalStateException: none may be taken." */
    private static void noneMayBeTaken(Due due) {
        Due.Setup full = () -> {
            GroupBitmaps x = Make.laid(2, 16);
            Seen.takeAll(x);
            return x;
        };
        due.failsWhole("take(12, 1, false) of a full volume", full, x -> x.take(12, 1, false));
        due.failsWhole("take(271, 256, true) of a full volume", full, x -> x.take(271, 256, true));
        due.failsWhole("take(0, 1, true) of a full volume", full, x -> x.take(0, 1, true));
        Due.Setup reserved = () -> {
            GroupBitmaps x = Make.settled(1, 20);
            x.reserve(8);
            return x;
        };
        due.failsWhole("take(12, 1, false), eight of eight reserved", reserved, x -> x.take(12, 1, false));
        due.failsWhole("take(12, 256, false), eight of eight reserved", reserved, x -> x.take(12, 256, false));
        GroupBitmaps x = reserved.volume();
        x.reserve(7);
        due.is("take(12, 256, false), seven of eight reserved", 12, () -> x.take(12, 256, false));
        due.is("taken() of one", 1, x::taken);
    }

    /** "IllegalArgumentException: goal is no block of a group." */
    private static void refusedGoals(Due due) {
        for (int groups = 1; groups <= 4; groups++) {
            for (int last : new int[] {16, 100, 256}) {
                int count = groups;
                int end = 256 * (groups - 1) + last;
                Due.Setup setup = () -> Make.settled(count, last);
                String name = "lay(" + groups + ", " + last + "): take(";
                due.is(name + (end - 1) + ", 1)", end - 1, () -> setup.volume().take(end - 1, 1, false));
                due.refusesWhole(name + end + ", 1)", setup, x -> x.take(end, 1, true));
                due.refusesWhole(name + "1024, 1)", setup, x -> x.take(1024, 1, true));
                due.refusesWhole(name + "-1, 1)", setup, x -> x.take(-1, 1, true));
            }
        }
        for (int goal : Due.FAR) {
            due.refusesWhole("take(" + goal + ", 256, false)", Make::used, x -> x.take(goal, 256, false));
        }
    }

    /** "Or n is not 1 .. 256", also where none may be taken. */
    private static void refusedNumbers(Due due) {
        Due.Setup full = () -> {
            GroupBitmaps x = Make.laid(1, 16);
            x.take(12, 4, false);
            return x;
        };
        for (int n : new int[] {0, 257, -1, -256, 1024, Integer.MIN_VALUE, Integer.MAX_VALUE}) {
            due.refusesWhole("take(20, " + n + ", true)", Make::used, x -> x.take(20, n, true));
            due.refusesWhole("take(12, " + n + ", false) of a full volume", full, x -> x.take(12, n, false));
            due.refusesWhole("take(-1, " + n + ", true)", Make::used, x -> x.take(-1, n, true));
        }
        due.refusesWhole("take(16, 1, true) of a full volume", full, x -> x.take(16, 1, true));
    }
}
