/** Promise 6: blocks are free again. */
public final class GiveTest {
    public static void main(String[] args) {
        Due due = new Due();
        ordinary(due);
        freeOrFixed(due);
        wrongInputs(due);
        due.end();
    }

    private static void ordinary(Due due) {
        GroupBitmaps x = new GroupBitmaps();
        x.take(12, 244, false);
        x.take(522, 246, false);
        due.is("give(12, 1)", 489, () -> x.give(12, 1));
        due.is("give(100, 156) to the group's end", 645, () -> x.give(100, 156));
        due.is("give(522, 246)", 891, () -> x.give(522, 246));
        due.is("free of 0", 157, () -> x.group(0, 2));
        due.is("free of 2", 246, () -> x.group(2, 2));
        due.is("isTaken(0, 99)", true, () -> x.isTaken(0, 99));
        due.is("isTaken(0, 100)", false, () -> x.isTaken(0, 100));
        due.is("isTaken(0, 255)", false, () -> x.isTaken(0, 255));
        due.is("isTaken(0, 256)", true, () -> x.isTaken(0, 256));
        due.is("give(13, 87)", 978, () -> x.give(13, 87));
    }

    private static void freeOrFixed(Due due) {
        GroupBitmaps x = new GroupBitmaps();
        x.take(12, 244, false);
        x.take(268, 20, false);
        x.settle();
        due.fails("give(255, 14) over the group's end: fixed ones", () -> x.give(255, 14));
        due.fails("give(11, 2): a fixed one first", () -> x.give(11, 2));
        due.fails("give(0, 1)", () -> x.give(0, 1));
        due.fails("give(521, 1): the last fixed one of 2", () -> x.give(521, 1));
        due.fails("give(779, 1): the last fixed one of 3", () -> x.give(779, 1));
        due.fails("give(522, 1): a free one", () -> x.give(522, 1));
        due.fails("give(270, 19): the last one is free", () -> x.give(270, 19));
        due.fails("give(0, 1024)", () -> x.give(0, 1024));
        due.is("none is given", 714, () -> x.reserve(0));
        due.is("isTaken(0, 255)", true, () -> x.isTaken(0, 255));
        due.is("isTaken(0, 270)", true, () -> x.isTaken(0, 270));
        due.is("nothing is told", 0, x::settle);
        due.is("give(270, 18)", 732, () -> x.give(270, 18));
        due.fails("give(270, 1) twice", () -> x.give(270, 1));
    }

    private static void wrongInputs(Due due) {
        GroupBitmaps x = new GroupBitmaps();
        x.lay(2, 100);
        x.take(268, 88, false);
        int[] wrong = {0, 1025, -1, Integer.MIN_VALUE, Integer.MAX_VALUE};
        for (int n : wrong) {
            due.refuses("give(300, " + n + ")", () -> x.give(300, n));
        }
        int[] blocks = {-1, 356, 512, 1024, Integer.MIN_VALUE, Integer.MAX_VALUE};
        for (int block : blocks) {
            due.refuses("give(" + block + ", 1)", () -> x.give(block, 1));
        }
        due.refuses("give(355, 2)", () -> x.give(355, 2));
        due.refuses("give(-1, 2)", () -> x.give(-1, 2));
        due.refuses("give(0, 1024): some are no blocks, some fixed", () -> x.give(0, 1024));
        due.refuses("give(0, 357)", () -> x.give(0, 357));
        due.fails("give(0, 356)", () -> x.give(0, 356));
        due.is("none is given", 244, () -> x.reserve(0));
        due.is("give(355, 1)", 245, () -> x.give(355, 1));
    }
}
