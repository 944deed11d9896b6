/** Promise 8: a file is free again. */
public final class GiveFileTest {
    public static void main(String[] args) {
        Due due = new Due();
        ordinary(due);
        asThisCallSays(due);
        firstAndLast(due);
        leastFreeAgain(due);
        itIsFree(due);
        noFolderInItsGroup(due);
        foldersOfOtherGroups(due);
        filesUpToTen(due);
        behindTheLast(due);
        due.end();
    }

    /** "How many files are free, in all." */
    private static void ordinary(Due due) {
        GroupBitmaps x = new GroupBitmaps();
        x.takeFile(1, false);
        x.takeFile(1, true);
        x.takeFile(129, true);
        due.is("giveFile(11, false)", 500, () -> x.giveFile(11, false));
        due.is("giveFile(12, true)", 501, () -> x.giveFile(12, true));
        due.is("folders of 0", 0, () -> x.group(0, 4));
        due.is("folders of 1", 1, () -> x.group(1, 4));
        due.is("giveFile(129, true)", 502, () -> x.giveFile(129, true));
        due.is("isTaken(1, 129)", false, () -> x.isTaken(1, 129));
        due.is("free files of 0", 118, () -> x.group(0, 3));
        due.is("free files of 1", 128, () -> x.group(1, 3));
        due.is("folders of 1 behind it", 0, () -> x.group(1, 4));
    }

    /** "A folder or not (as this call says; how it was taken is not kept)." */
    private static void asThisCallSays(Due due) {
        GroupBitmaps x = new GroupBitmaps();
        x.takeFile(129, true);
        due.is("a folder given as a plain file", 502, () -> x.giveFile(129, false));
        due.is("its group has a folder still", 1, () -> x.group(1, 4));
        x.takeFile(129, false);
        due.is("a plain file given as a folder", 502, () -> x.giveFile(129, true));
        due.is("its group has none any more", 0, () -> x.group(1, 4));
    }

    /** File 11 and the last file of each volume. */
    private static void firstAndLast(Due due) {
        for (int groups = 1; groups <= 4; groups++) {
            GroupBitmaps x = Make.laid(groups, 256);
            int all = 128 * groups - 10;
            int last = groups - 1;
            x.takeFile(1, false);
            due.is(groups + " groups: giveFile(11, false)", all, () -> x.giveFile(11, false));
            Make.takeFiles(x, last, last == 0 ? 118 : 128);
            int file = 128 * groups;
            due.is("isTaken(1, " + file + ")", true, () -> x.isTaken(1, file));
            due.is("giveFile(" + file + ", false)", 128 * last - (last == 0 ? 0 : 10) + 1, () -> x.giveFile(file, false));
            due.is("isTaken(1, " + file + ") behind it", false, () -> x.isTaken(1, file));
            due.is("isTaken(1, " + (file - 1) + ")", true, () -> x.isTaken(1, file - 1));
        }
    }

    /** What is given is the least free number again. */
    private static void leastFreeAgain(Due due) {
        GroupBitmaps x = new GroupBitmaps();
        Make.takeFiles(x, 1, 9);
        x.giveFile(135, false);
        x.giveFile(131, false);
        due.is("the least", 131, () -> x.takeFile(129, false));
        due.is("the next", 135, () -> x.takeFile(129, false));
        due.is("one that was never taken", 138, () -> x.takeFile(129, false));
    }

    /** "IllegalStateException: it is free." */
    private static void itIsFree(Due due) {
        due.failsWhole("giveFile(11, false) of a new object", GroupBitmaps::new, x -> x.giveFile(11, false));
        due.failsWhole("giveFile(512, false) of a new object", GroupBitmaps::new, x -> x.giveFile(512, false));
        Due.Setup setup = () -> {
            GroupBitmaps x = new GroupBitmaps();
            x.takeFile(129, true);
            x.takeFile(129, false);
            x.giveFile(130, false);
            x.settle();
            return x;
        };
        due.failsWhole("giveFile(130, false) twice", setup, x -> x.giveFile(130, false));
        due.failsWhole("giveFile(130, true): free, though its group has a folder", setup, x -> x.giveFile(130, true));
        due.failsWhole("giveFile(11, true): free, and its group has none", setup, x -> x.giveFile(11, true));
        due.failsWhole("giveFile(131, false): the next one", setup, x -> x.giveFile(131, false));
        due.is("giveFile(129, true)", 502, () -> setup.volume().giveFile(129, true));
    }

    /** "Or a folder and its group has none": the file stays taken, and may be given as a plain one. */
    private static void noFolderInItsGroup(Due due) {
        Due.Setup setup = () -> {
            GroupBitmaps x = Make.laid(2, 30);
            x.takeFile(129, false);
            x.settle();
            return x;
        };
        due.failsWhole("giveFile(129, true) where no folder was", setup, x -> x.giveFile(129, true));
        GroupBitmaps x = Make.laid(2, 30);
        x.takeFile(129, true);
        x.takeFile(129, true);
        x.takeFile(129, false);
        x.giveFile(131, true);
        due.is("the last folder", 245, () -> x.giveFile(130, true));
        due.fails("one more", () -> x.giveFile(129, true));
        due.is("isTaken(1, 129)", true, () -> x.isTaken(1, 129));
        due.is("folders of 1", 0, () -> x.group(1, 4));
        due.is("giveFile(129, false)", 246, () -> x.giveFile(129, false));
    }

    private static void foldersOfOtherGroups(Due due) {
        Due.Setup setup = () -> {
            GroupBitmaps x = new GroupBitmaps();
            x.takeFile(1, true);
            x.takeFile(129, false);
            x.takeFile(257, true);
            x.settle();
            return x;
        };
        due.failsWhole("giveFile(129, true) beside groups with folders", setup, x -> x.giveFile(129, true));
        due.is("giveFile(257, true)", 500, () -> setup.volume().giveFile(257, true));
    }

    /** "IllegalArgumentException: it is none from 11 on." */
    private static void filesUpToTen(Due due) {
        for (int k = 0; k <= 10; k++) {
            int file = k;
            due.refusesWhole("giveFile(" + file + ", false)", Make::used, x -> x.giveFile(file, false));
            due.refusesWhole("giveFile(" + file + ", true)", Make::used, x -> x.giveFile(file, true));
        }
        for (int file : Due.FAR) {
            due.refusesWhole("giveFile(" + file + ", false)", Make::used, x -> x.giveFile(file, false));
            due.refusesWhole("giveFile(" + file + ", true)", Make::used, x -> x.giveFile(file, true));
        }
    }

    /** The file behind the last one, also where it was taken in a group that is no more. */
    private static void behindTheLast(Due due) {
        for (int groups = 1; groups <= 4; groups++) {
            int count = groups;
            int behind = 128 * groups + 1;
            Due.Setup setup = () -> {
                GroupBitmaps x = new GroupBitmaps();
                for (int g = 0; g < 4; g++) {
                    x.takeFile(128 * g + 1, false);
                }
                x.lay(count, 40);
                return x;
            };
            String name = groups + " groups: giveFile(";
            due.refusesWhole(name + behind + ", false)", setup, x -> x.giveFile(behind, false));
            due.refusesWhole(name + behind + ", true)", setup, x -> x.giveFile(behind, true));
            due.failsWhole(name + (behind - 1) + ", false)", setup, x -> x.giveFile(behind - 1, false));
        }
    }
}
