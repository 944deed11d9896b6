/** Promise 7: folders, spread over the groups if their parent is file 2. */
public final class TakeFolderTest {
    public static void main(String[] args) {
        Due due = new Due();
        fewestFolders(due);
        onlyFileTwo(due);
        averageOfFilesIsCut(due);
        averageOfBlocksIsCut(due);
        averageIsOverAllGroups(due);
        bothAverages(due);
        oneFreeFile(due);
        justOneFreeFile(due);
        noBlockNeeded(due);
        firstOfSeveral(due);
        noneHasBoth(due);
        halfOfTheAverage(due);
        halfIsCutAgain(due);
        halfNeedsAFileAndABlock(due);
        halfOfNothing(due);
        behindTheLastGroup(due);
        firstWithAFile(due);
        foldersAreCounted(due);
        due.end();
    }

    /** "That with the fewest folders, of several the first, from the parent's group on." */
    private static void fewestFolders(Due due) {
        GroupBitmaps x = new GroupBitmaps();
        due.is("0 has fewer files than 125: 1", 129, () -> x.takeFile(2, true));
        due.is("1 has a folder: 2", 257, () -> x.takeFile(2, true));
        due.is("2 has one, too: 3", 385, () -> x.takeFile(2, true));
        due.is("all have one: 1", 130, () -> x.takeFile(2, true));
        due.is("1 has two: 2", 258, () -> x.takeFile(2, true));
        x.giveFile(129, true);
        due.is("1 and 3 have one: 1", 129, () -> x.takeFile(2, true));
        due.is("only 3 has one: 3", 386, () -> x.takeFile(2, true));
    }

    /** The parents 1 and 3 are as all others: of their group. */
    private static void onlyFileTwo(Due due) {
        due.is("takeFile(1, true)", 11, () -> new GroupBitmaps().takeFile(1, true));
        due.is("takeFile(2, true)", 129, () -> new GroupBitmaps().takeFile(2, true));
        due.is("takeFile(3, true)", 11, () -> new GroupBitmaps().takeFile(3, true));
        due.is("takeFile(130, true)", 129, () -> new GroupBitmaps().takeFile(130, true));
        due.is("takeFile(258, true)", 257, () -> new GroupBitmaps().takeFile(258, true));
        due.is("takeFile(2, false)", 11, () -> new GroupBitmaps().takeFile(2, false));
        due.is("takeFile(2, true) of one group", 11, () -> Make.laid(1, 16).takeFile(2, true));
    }

    /** "At least as many free files .. as is the average of these (.. cut)": 118 of 118 and 119. */
    private static void averageOfFilesIsCut(Due due) {
        GroupBitmaps x = Make.laid(2, 256);
        Make.takeFiles(x, 1, 9);
        due.is("118 and 119: 0 has the average", 11, () -> x.takeFile(2, true));
        GroupBitmaps y = Make.laid(2, 256);
        Make.takeFiles(y, 1, 8);
        due.is("118 and 120: 0 has less than 119", 137, () -> y.takeFile(2, true));
    }

    /** "And as many free blocks": 243 of 244 and 243, and 242 of 244 and 242. */
    private static void averageOfBlocksIsCut(Due due) {
        GroupBitmaps x = Make.laid(2, 256);
        x.take(268, 1, false);
        due.is("244 and 243: 1 has the average", 129, () -> x.takeFile(2, true));
        GroupBitmaps y = Make.laid(2, 256);
        y.take(268, 2, false);
        due.is("244 and 242: 1 has less than 243, 0 too few files", 11, () -> y.takeFile(2, true));
        GroupBitmaps z = Make.laid(3, 254);
        Make.takeFiles(z, 1, 10);
        Make.takeFiles(z, 2, 10);
        z.take(12, 1, false);
        due.is("243, 244 and 244: 0 has the average", 11, () -> z.takeFile(2, true));
        z.giveFile(11, true);
        z.take(13, 1, false);
        due.is("242, 244 and 244: 0 has less than 243", 139, () -> z.takeFile(2, true));
    }

    /** "(Over all groups)": those of the volume, no more. */
    private static void averageIsOverAllGroups(Due due) {
        GroupBitmaps x = new GroupBitmaps();
        x.lay(2, 16);
        due.is("244 and 4 blocks, 118 and 128 files: none has both", 11, () -> x.takeFile(2, true));
        GroupBitmaps y = Make.laid(3, 16);
        due.is("244, 244 and 6 blocks: 1", 129, () -> y.takeFile(2, true));
        due.is("again: 1, since 2 has too few blocks", 130, () -> y.takeFile(2, true));
        Make.takeFiles(y, 2, 30);
        due.is("118, 126 and 98 files: 0 has the average", 11, () -> y.takeFile(2, true));
    }

    /** A group that has many of the one and too few of the other is none of them. */
    private static void bothAverages(Due due) {
        GroupBitmaps x = new GroupBitmaps();
        x.takeFile(129, true);
        x.takeFile(257, true);
        x.takeFile(257, true);
        x.take(780, 100, false);
        due.is("3 has no folder, but few blocks; 1 has fewer than 2", 130, () -> x.takeFile(2, true));
        x.give(780, 100);
        due.is("3 has its blocks again", 385, () -> x.takeFile(2, true));
        Make.takeFiles(x, 3, 10);
        x.takeFile(257, true);
        due.is("3 has few files; 1 has fewer folders than 2", 131, () -> x.takeFile(2, true));
    }

    /** "And one free file", where the average is 0. */
    private static void oneFreeFile(Due due) {
        GroupBitmaps x = Make.laid(2, 256);
        Make.takeFiles(x, 0, 118);
        Make.takeFiles(x, 1, 127);
        due.is("0 and 1 files", 256, () -> x.takeFile(2, true));
        x.giveFile(20, false);
        due.is("1 and 0 files", 20, () -> x.takeFile(2, true));
        due.is("folders of 0", 1, () -> x.group(0, 4));
        x.giveFile(256, true);
        x.take(268, 9, false);
        due.is("0 and 1 files, 1 has few blocks", 256, () -> x.takeFile(2, true));
    }

    /** One is enough where the average is 1, though another group comes first with one. */
    private static void justOneFreeFile(Due due) {
        GroupBitmaps x = Make.laid(2, 256);
        Make.takeFiles(x, 0, 117);
        Make.takeFiles(x, 1, 127);
        x.take(12, 9, false);
        due.is("1 and 1 files, 0 has few blocks", 256, () -> x.takeFile(2, true));
        due.is("1 and 0 files, 0 has few blocks", 128, () -> x.takeFile(2, true));
    }

    /** Where the average of blocks is 0, a group without a block has as many. */
    private static void noBlockNeeded(Due due) {
        GroupBitmaps x = new GroupBitmaps();
        Seen.takeAll(x);
        due.is("no block at all: as with all blocks", 129, () -> x.takeFile(2, true));
        x.give(100, 3);
        due.is("three blocks in 0: the average is 0", 257, () -> x.takeFile(2, true));
        x.give(103, 1);
        due.is("four blocks in 0: the average is 1, 0 has too few files", 11, () -> x.takeFile(2, true));
    }

    /** All have as many of all: the first is the parent's own. */
    private static void firstOfSeveral(Due due) {
        GroupBitmaps x = Make.laid(4, 256);
        for (int g = 1; g < 4; g++) {
            Make.takeFiles(x, g, 10);
        }
        x.take(522, 2, false);
        due.is("the first of four", 11, () -> x.takeFile(2, true));
        due.is("0 has a folder: the first of three", 139, () -> x.takeFile(2, true));
    }

    /** "If there is none": as for other folders, from the parent's on. */
    private static void noneHasBoth(Due due) {
        GroupBitmaps x = Make.laid(2, 40);
        due.is("0 lacks files, 1 blocks", 11, () -> x.takeFile(2, true));
        due.is("folders of 0", 1, () -> x.group(0, 4));
        Make.takeFiles(x, 0, 76);
        due.is("41 and 128 files, half of 84 is 42: 1", 129, () -> x.takeFile(2, true));
        Make.fillBlocks(x, 1);
        due.is("1 has no block: the first with a file", 88, () -> x.takeFile(2, true));
    }

    /** "The first, from the parent's on, that has at least half of that average .. of free files." */
    private static void halfOfTheAverage(Due due) {
        GroupBitmaps x = Make.laid(2, 256);
        Make.takeFiles(x, 1, 89);
        due.is("39 free files, half of 78", 218, () -> x.takeFile(129, true));
        due.is("38 free files, half of 78", 11, () -> x.takeFile(129, true));
        x.giveFile(200, false);
        due.is("39 free files, half of 78 again", 200, () -> x.takeFile(129, true));
        GroupBitmaps y = new GroupBitmaps();
        Make.takeFiles(y, 1, 75);
        due.is("four groups: 53 free files, half of 106", 204, () -> y.takeFile(129, true));
        due.is("four groups: 52 free files, half of 106", 257, () -> y.takeFile(129, true));
    }

    /** "(Cut again)": half of 97 is 48. */
    private static void halfIsCutAgain(Due due) {
        GroupBitmaps x = Make.laid(3, 256);
        Make.takeFiles(x, 2, 1);
        Make.takeFiles(x, 1, 80);
        due.is("48 of 293 files in three groups", 209, () -> x.takeFile(129, true));
        due.is("47 of 292 files in three groups", 258, () -> x.takeFile(129, true));
    }

    /** "And one free file and one free block." */
    private static void halfNeedsAFileAndABlock(Due due) {
        GroupBitmaps x = new GroupBitmaps();
        x.take(12, 243, false);
        due.is("one block", 11, () -> x.takeFile(1, true));
        x.take(255, 1, false);
        due.is("no block", 129, () -> x.takeFile(1, true));
        Make.fillBlocks(x, 1);
        due.is("1 has none either: 2, not 3", 257, () -> x.takeFile(1, true));
        Make.fillBlocks(x, 2);
        due.is("2 has none either", 385, () -> x.takeFile(1, true));
        x.give(40, 1);
        due.is("one block again", 12, () -> x.takeFile(1, true));
    }

    /** Where half of the average is 0, one free file is needed still. */
    private static void halfOfNothing(Due due) {
        GroupBitmaps x = Make.laid(2, 256);
        Make.takeFiles(x, 0, 118);
        Make.takeFiles(x, 1, 125);
        due.is("0 and 3 files, half of 1", 254, () -> x.takeFile(1, true));
        due.is("0 and 2 files, half of 1", 255, () -> x.takeFile(3, true));
        due.is("0 and 1 files, half of 0", 256, () -> x.takeFile(128, true));
        x.giveFile(30, false);
        due.is("1 and 0 files, half of 0", 30, () -> x.takeFile(129, true));
    }

    /** "From the parent's on": behind the last group comes group 0. */
    private static void behindTheLastGroup(Due due) {
        int[] first = {11, 129, 257, 385};
        for (int groups = 1; groups <= 4; groups++) {
            for (int from = 0; from < groups; from++) {
                for (int only = 0; only < groups; only++) {
                    GroupBitmaps x = Make.laid(groups, 256);
                    Seen.takeAll(x);
                    x.give(256 * only + 99, 1);
                    int parent = 128 * from + 3;
                    due.is(groups + " groups, parent in " + from + ", a block in " + only, first[only],
                        () -> x.takeFile(parent, true));
                }
            }
        }
    }

    /** "Otherwise the first with a free file", without a block or with too few files. */
    private static void firstWithAFile(Due due) {
        int[] first = {11, 129, 257, 385};
        for (int from = 0; from < 4; from++) {
            GroupBitmaps x = new GroupBitmaps();
            Seen.takeAll(x);
            int parent = 128 * from + 3;
            due.is("no block at all, parent in " + from, first[from], () -> x.takeFile(parent, true));
        }
        GroupBitmaps x = Make.laid(3, 256);
        Make.takeFiles(x, 2, 128);
        Seen.takeAll(x);
        due.is("2 has no file, behind it comes 0", 11, () -> x.takeFile(257, true));
        GroupBitmaps y = Make.laid(2, 256);
        Make.takeFiles(y, 1, 100);
        Make.fillBlocks(y, 0);
        due.is("1 has few files, 0 no block: from 1", 229, () -> y.takeFile(129, true));
        due.is("1 has few files, 0 no block: from 0", 11, () -> y.takeFile(1, true));
    }

    private static void foldersAreCounted(Due due) {
        GroupBitmaps x = new GroupBitmaps();
        Make.fillBlocks(x, 0);
        x.takeFile(1, true);
        due.is("folders of the parent's group", 0, () -> x.group(0, 4));
        due.is("folders of its own group", 1, () -> x.group(1, 4));
        x.takeFile(129, false);
        due.is("a plain file is none", 1, () -> x.group(1, 4));
    }
}
