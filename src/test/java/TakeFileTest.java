/** Promise 7: a file is taken near to its folder, or spread. */
public final class TakeFileTest {
    public static void main(String[] args) {
        Due due = new Due();
        leastFreeNumber(due);
        plainNeedsABlock(due);
        plainSteps(due);
        rootFolders(due);
        rootFoldersNeedAverages(due);
        otherFolders(due);
        justEnough(due);
        wrongInputs(due);
        noneLeft(due);
        due.end();
    }

    private static void leastFreeNumber(Due due) {
        GroupBitmaps x = new GroupBitmaps();
        due.is("takeFile(1)", 11, () -> x.takeFile(1, false));
        due.is("takeFile(128)", 12, () -> x.takeFile(128, false));
        due.is("takeFile(129)", 129, () -> x.takeFile(129, false));
        due.is("takeFile(512)", 385, () -> x.takeFile(512, false));
        x.takeFile(1, false);
        x.giveFile(12, false);
        due.is("a given one again", 12, () -> x.takeFile(1, false));
        due.is("files free", 115, () -> x.group(0, 3));
        due.is("no folder", 0, () -> x.group(0, 4));
        due.is("isTaken(1, 12)", true, () -> x.isTaken(1, 12));
    }

    private static void plainNeedsABlock(Due due) {
        GroupBitmaps x = new GroupBitmaps();
        x.take(12, 244, false);
        due.is("group 0 has no block: group 1", 129, () -> x.takeFile(1, false));
        x.take(268, 244, false);
        due.is("1 neither: group 3 before group 2", 385, () -> x.takeFile(1, false));
        x.take(780, 244, false);
        due.is("nor 3: the first with a file", 11, () -> x.takeFile(1, false));
        due.is("from 1: group 2", 257, () -> x.takeFile(130, false));
        due.is("from 3: 0 and 2 behind it", 258, () -> x.takeFile(400, false));
    }

    private static void plainSteps(Due due) {
        GroupBitmaps x = new GroupBitmaps();
        x.lay(3, 256);
        x.take(268, 244, false);
        x.take(522, 246, false);
        due.is("three groups, from 1: 2, 1, 2: the first with a file", 129, () -> x.takeFile(129, false));
        due.is("three groups, from 2: 0", 11, () -> x.takeFile(257, false));
        x.lay(2, 256);
        x.take(12, 244, false);
        due.is("two groups, from 0: 1", 129, () -> x.takeFile(1, false));
        x.take(268, 244, false);
        due.is("no block at all", 11, () -> x.takeFile(1, false));
        fill(x, 1, 117);
        due.is("no block at all, group 0 is full", 130, () -> x.takeFile(1, false));
        x.lay(1, 16);
        due.is("one group", 11, () -> x.takeFile(1, false));
    }

    private static void rootFolders(Due due) {
        GroupBitmaps x = new GroupBitmaps();
        due.is("group 0 is below the average", 129, () -> x.takeFile(2, true));
        x.lay(4, 256);
        for (int g = 1; g < 4; g++) {
            fill(x, 128 * g + 1, 10);
            x.take(256 * g, 2, false);
        }
        x.take(512, 2, false);
        due.is("all the same: the first", 11, () -> x.takeFile(2, true));
        for (int g = 1; g < 4; g++) {
            fill(x, 128 * g + 1, 1);
        }
        x.take(20, 2, false);
        x.take(12, 8, false);
        due.is("free blocks of 0", 234, () -> x.group(0, 2));
        due.is("group 0 is below the average of blocks", 139 + 1, () -> x.takeFile(2, true));
        due.is("folders of 1", 1, () -> x.group(1, 4));
    }

    private static void rootFoldersNeedAverages(Due due) {
        GroupBitmaps x = new GroupBitmaps();
        x.lay(2, 256);
        x.take(268, 1, false);
        due.is("0 lacks files, 1 lacks a block (243 of 243): it fits", 129, () -> x.takeFile(2, true));
        x.take(268, 2, false);
        due.is("now none fits: half of the files", 11, () -> x.takeFile(2, true));
        due.is("folders of 0", 1, () -> x.group(0, 4));
        x.give(268, 3);
        due.is("fewest folders among those that fit", 130, () -> x.takeFile(2, true));
        GroupBitmaps y = new GroupBitmaps();
        y.takeFile(129, true);
        y.takeFile(257, true);
        y.takeFile(385, true);
        y.takeFile(129, true);
        y.take(780, 100, false);
        due.is("3 lacks blocks, 1 has more folders than 2", 258, () -> y.takeFile(2, true));
    }

    private static void otherFolders(Due due) {
        GroupBitmaps x = new GroupBitmaps();
        due.is("a folder of file 3", 11, () -> x.takeFile(3, true));
        due.is("folders of 0", 1, () -> x.group(0, 4));
        fill(x, 129, 66);
        due.is("62 free files, half of 108", 195, () -> x.takeFile(130, true));
        fill(x, 129, 11);
        due.is("50 free files, half of 105 is 52", 257, () -> x.takeFile(129, true));
        fill(x, 1, 117);
        x.take(780, 244, false);
        due.is("3 has no block, 0 no file", 207, () -> x.takeFile(129 + 128 * 2, true));
        x.take(268, 244, false);
        due.is("nor has 1: 2", 258, () -> x.takeFile(400, true));
        x.take(522, 246, false);
        due.is("2 neither, and 0 no file: the first with a file", 385, () -> x.takeFile(400, true));
    }

    private static void justEnough(Due due) {
        GroupBitmaps x = new GroupBitmaps();
        x.lay(2, 256);
        fill(x, 129, 89);
        due.is("39 free files, half of 78", 218, () -> x.takeFile(129, true));
        due.is("38 free files, half of 78", 11, () -> x.takeFile(129, true));
        x.take(12, 243, false);
        due.is("one free block, a plain one", 12, () -> x.takeFile(1, false));
        due.is("one free block, a folder", 13, () -> x.takeFile(1, true));
        x.take(255, 1, false);
        due.is("no free block, a plain one", 219, () -> x.takeFile(1, false));
        due.is("no free block, and too few files behind", 14, () -> x.takeFile(1, true));
    }

    private static void wrongInputs(Due due) {
        GroupBitmaps x = new GroupBitmaps();
        int[] wrong = {0, 513, -1, Integer.MIN_VALUE, Integer.MAX_VALUE};
        for (int parent : wrong) {
            due.refuses("takeFile(" + parent + ", false)", () -> x.takeFile(parent, false));
            due.refuses("takeFile(" + parent + ", true)", () -> x.takeFile(parent, true));
        }
        x.lay(2, 16);
        x.settle();
        due.refuses("takeFile(257) of two groups", () -> x.takeFile(257, false));
        due.is("nothing is taken", 246, () -> x.group(0, 3) + x.group(1, 3));
        due.is("nothing is told", 0, x::settle);
        due.is("a parent that is free", 129, () -> x.takeFile(256, false));
    }

    private static void noneLeft(Due due) {
        GroupBitmaps x = new GroupBitmaps();
        x.lay(1, 16);
        fill(x, 1, 117);
        due.is("the last one", 128, () -> x.takeFile(2, true));
        x.settle();
        due.fails("a plain one of none", () -> x.takeFile(2, false));
        due.fails("a root folder of none", () -> x.takeFile(2, true));
        due.fails("a folder of none", () -> x.takeFile(1, true));
        due.refuses("a wrong parent", () -> x.takeFile(129, true));
        due.is("folders stay", 1, () -> x.group(0, 4));
        due.is("nothing is told", 0, x::settle);
    }

    private static void fill(GroupBitmaps x, int parent, int n) {
        for (int k = 0; k < n; k++) {
            x.takeFile(parent, false);
        }
    }
}
