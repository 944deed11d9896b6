/** Promise 7: a plain file near to its folder, the least free number of its group, and what is refused. */
public final class TakeFileTest {
    public static void main(String[] args) {
        Due due = new Due();
        leastFreeNumber(due);
        anyParent(due);
        parentsGroupHasNoFile(due);
        parentsGroupHasNoBlock(due);
        justOneFileAndBlock(due);
        oneAndThreeBehind(due);
        sevenBehind(due);
        twoBehindIsNotLookedAt(due);
        fileWithoutBlock(due);
        fileWithoutBlockOfFewGroups(due);
        noneIsFree(due);
        refused(due);
        due.end();
    }

    /** "In the group it is the least free number." */
    private static void leastFreeNumber(Due due) {
        GroupBitmaps x = new GroupBitmaps();
        due.is("the first of 0", 11, () -> x.takeFile(1, false));
        due.is("the next of 0", 12, () -> x.takeFile(128, false));
        due.is("the first of 1", 129, () -> x.takeFile(129, false));
        due.is("one more of 0", 13, () -> x.takeFile(1, false));
        x.giveFile(12, false);
        due.is("a given one again", 12, () -> x.takeFile(1, false));
        due.is("behind it", 14, () -> x.takeFile(1, false));
        due.is("files free", 114, () -> x.group(0, 3));
        due.is("no folder", 0, () -> x.group(0, 4));
        due.is("isTaken(1, 14)", true, () -> x.isTaken(1, 14));
        due.is("isTaken(1, 15)", false, () -> x.isTaken(1, 15));
    }

    /** "File parent in the volume (taken or not)": every one of them, a plain file's and a folder's. */
    private static void anyParent(Due due) {
        for (int p = 1; p <= 384; p++) {
            int parent = p;
            int want = p <= 128 ? 11 : p <= 256 ? 129 : 257;
            int folder = p == 2 ? 129 : want;
            due.is("takeFile(" + p + ", false)", want, () -> Make.laid(3, 30).takeFile(parent, false));
            due.is("takeFile(" + p + ", true)", folder, () -> Make.laid(3, 256).takeFile(parent, true));
        }
    }

    /** "Of the parent's group, if that has a free file": else of the one behind it. */
    private static void parentsGroupHasNoFile(Due due) {
        for (int g = 0; g < 4; g++) {
            GroupBitmaps x = new GroupBitmaps();
            int parent = 128 * g + 1;
            Make.takeFiles(x, g, g == 0 ? 117 : 127);
            due.is("the last file of " + g, 128 * g + 128, () -> x.takeFile(parent, false));
            due.is("free files of " + g, 0, () -> x.group((parent - 1) / 128, 3));
            int behind = g == 3 ? 11 : 128 * (g + 1) + 1;
            due.is("behind the last file of " + g, behind, () -> x.takeFile(parent, false));
        }
    }

    /** "And a free block." */
    private static void parentsGroupHasNoBlock(Due due) {
        for (int g = 0; g < 4; g++) {
            GroupBitmaps x = new GroupBitmaps();
            Make.fillBlocks(x, g);
            int parent = 128 * g + 128;
            int behind = g == 3 ? 11 : 128 * (g + 1) + 1;
            due.is("group " + g + " has no block", behind, () -> x.takeFile(parent, false));
            x.give(256 * g + 255, 1);
            due.is("group " + g + " has one", g == 0 ? 11 : 128 * g + 1, () -> x.takeFile(parent, false));
        }
    }

    private static void justOneFileAndBlock(Due due) {
        GroupBitmaps x = Make.laid(2, 256);
        Make.takeFiles(x, 1, 127);
        x.take(268, 243, false);
        due.is("one file and one block", 256, () -> x.takeFile(200, false));
        due.is("no file and one block", 11, () -> x.takeFile(200, false));
        x.giveFile(140, false);
        x.take(511, 1, false);
        due.is("one file and no block", 12, () -> x.takeFile(200, false));
        x.give(300, 1);
        due.is("one of both again", 140, () -> x.takeFile(200, false));
    }

    /** "The first group with both of those that lie 1, 3 .. behind it (behind the last one comes group 0)." */
    private static void oneAndThreeBehind(Due due) {
        int[] first = {11, 129, 257, 385};
        for (int g = 0; g < 4; g++) {
            GroupBitmaps x = new GroupBitmaps();
            int parent = 128 * g + 5;
            int one = (g + 1) % 4;
            int three = (g + 3) % 4;
            Make.fillBlocks(x, g);
            due.is("one behind " + g, first[one], () -> x.takeFile(parent, false));
            Make.fillBlocks(x, one);
            due.is("three behind " + g, first[three], () -> x.takeFile(parent, false));
            x.give(256 * one + 200, 1);
            due.is("one behind " + g + " again", first[one] + 1, () -> x.takeFile(parent, false));
            int left = x.group(one, 3);
            Make.takeFiles(x, one, left);
            due.is("one behind " + g + " has a block, but no file", first[three] + 1, () -> x.takeFile(parent, false));
        }
    }

    /** Of fewer groups 3 and 7 behind are the group itself, or those that were looked at. */
    private static void sevenBehind(Due due) {
        GroupBitmaps x = Make.laid(3, 256);
        Make.fillBlocks(x, 1);
        Make.fillBlocks(x, 2);
        due.is("three groups, from 1: 2, 1 and 2 have no block", 129, () -> x.takeFile(129, false));
        due.is("three groups, from 2: 0 is one behind it", 11, () -> x.takeFile(257, false));
        due.is("three groups, from 0", 12, () -> x.takeFile(1, false));
        GroupBitmaps y = Make.laid(2, 256);
        Make.fillBlocks(y, 1);
        due.is("two groups, from 1", 11, () -> y.takeFile(129, false));
        Make.fillBlocks(y, 0);
        y.give(300, 1);
        due.is("two groups, from 0", 129, () -> y.takeFile(1, false));
        GroupBitmaps z = Make.laid(1, 16);
        Make.fillBlocks(z, 0);
        due.is("one group without a block", 11, () -> z.takeFile(1, false));
    }

    /** The group 2 behind is none of them: "otherwise of the first one, from the parent's on, with a free file". */
    private static void twoBehindIsNotLookedAt(Due due) {
        int[] first = {11, 129, 257, 385};
        for (int g = 0; g < 4; g++) {
            GroupBitmaps x = new GroupBitmaps();
            int parent = 128 * g + 1;
            Make.fillBlocks(x, g);
            Make.fillBlocks(x, (g + 1) % 4);
            Make.fillBlocks(x, (g + 3) % 4);
            due.is("only two behind " + g + " is a block", first[g], () -> x.takeFile(parent, false));
        }
        GroupBitmaps y = Make.laid(3, 256);
        Make.fillBlocks(y, 0);
        Make.fillBlocks(y, 1);
        due.is("three groups, from 0", 11, () -> y.takeFile(1, false));
        due.is("three groups, from 1: 2", 257, () -> y.takeFile(129, false));
    }

    private static void fileWithoutBlock(Due due) {
        GroupBitmaps x = new GroupBitmaps();
        Make.takeFiles(x, 0, 118);
        Make.takeFiles(x, 1, 128);
        Seen.takeAll(x);
        due.is("0 and 1 have no file, none a block: 2", 257, () -> x.takeFile(1, false));
        due.is("from 1: 2", 258, () -> x.takeFile(129, false));
        due.is("from 3: itself", 385, () -> x.takeFile(385, false));
        x.giveFile(50, false);
        due.is("from 0: itself", 50, () -> x.takeFile(1, false));
        Make.takeFiles(x, 3, 127);
        x.giveFile(150, false);
        due.is("from 3, behind it 0 has none: 1", 150, () -> x.takeFile(385, false));
        due.is("from 3, behind it 0 and 1 have none: 2", 259, () -> x.takeFile(385, false));
    }

    private static void fileWithoutBlockOfFewGroups(Due due) {
        GroupBitmaps x = Make.laid(2, 16);
        Seen.takeAll(x);
        Make.takeFiles(x, 1, 128);
        due.is("behind group 1 of two comes 0", 11, () -> x.takeFile(129, false));
        Make.takeFiles(x, 0, 116);
        due.is("the last file of all", 128, () -> x.takeFile(129, false));
        due.fails("none", () -> x.takeFile(129, false));
        x.giveFile(256, false);
        due.is("from 0 of two: 1", 256, () -> x.takeFile(1, false));
    }

    /** "IllegalStateException: none is free", whatever is asked for. */
    private static void noneIsFree(Due due) {
        GroupBitmaps x = Make.laid(2, 16);
        Make.takeFiles(x, 0, 118);
        Make.takeFiles(x, 1, 127);
        due.is("the last one", 256, () -> x.takeFile(2, true));
        x.settle();
        for (int parent : new int[] {1, 2, 3, 128, 129, 256}) {
            due.fails("takeFile(" + parent + ", false)", () -> x.takeFile(parent, false));
            due.fails("takeFile(" + parent + ", true)", () -> x.takeFile(parent, true));
        }
        due.refuses("a wrong parent", () -> x.takeFile(257, true));
        due.refuses("a wrong parent of a plain file", () -> x.takeFile(0, false));
        due.is("folders of 0", 0, () -> x.group(0, 4));
        due.is("folders of 1", 1, () -> x.group(1, 4));
        due.is("nothing is told", 0, x::settle);
        x.giveFile(77, false);
        due.is("one is free again", 77, () -> x.takeFile(256, false));
        Make.fillBlocks(x, 0);
        Make.fillBlocks(x, 1);
        due.fails("none, and no block", () -> x.takeFile(1, false));
        due.fails("none, and no block, a folder", () -> x.takeFile(2, true));
    }

    /** "IllegalArgumentException: there is no file parent in the volume." */
    private static void refused(Due due) {
        for (int groups = 1; groups <= 4; groups++) {
            int count = groups;
            int behind = 128 * groups + 1;
            int[] first = {11, 129, 257, 385};
            Due.Setup setup = () -> Make.settled(count, 40);
            String name = groups + " groups: takeFile(";
            due.is(name + (behind - 1) + ", false)", first[groups - 1], () -> setup.volume().takeFile(behind - 1, false));
            due.refusesWhole(name + behind + ", false)", setup, x -> x.takeFile(behind, false));
            due.refusesWhole(name + behind + ", true)", setup, x -> x.takeFile(behind, true));
            due.refusesWhole(name + "0, false)", setup, x -> x.takeFile(0, false));
            due.refusesWhole(name + "0, true)", setup, x -> x.takeFile(0, true));
        }
        for (int parent : Due.FAR) {
            due.refusesWhole("takeFile(" + parent + ", false)", Make::used, x -> x.takeFile(parent, false));
            due.refusesWhole("takeFile(" + parent + ", true)", Make::used, x -> x.takeFile(parent, true));
        }
    }
}
