/** Promise 10: numbers of a group. */
public final class GroupTest {
    public static void main(String[] args) {
        Due due = new Due();
        ordinary(due);
        longestRun(due);
        fullOfBlocks(due);
        fullOfFiles(due);
        lastGroup(due);
        refusedNumbers(due);
        changesNothing(due);
        due.end();
    }

    /** "0 its first block, 1 how many blocks it has, 2 free blocks, 3 free files, 4 folders, 5 its longest run." */
    private static void ordinary(Due due) {
        GroupBitmaps x = Make.laid(3, 140);
        numbers(due, x, "new", 2, 512, 140, 130, 128, 0, 130);
        x.take(550, 20, false);
        x.takeFile(257, true);
        x.takeFile(257, true);
        x.takeFile(257, false);
        numbers(due, x, "used", 2, 512, 140, 110, 125, 2, 82);
        numbers(due, x, "beside it", 1, 256, 256, 244, 128, 0, 244);
        numbers(due, x, "the first", 0, 0, 256, 244, 118, 0, 244);
        x.give(560, 2);
        x.giveFile(258, true);
        numbers(due, x, "given", 2, 512, 140, 112, 126, 1, 82);
        x.reserve(100);
        numbers(due, x, "reserved", 2, 512, 140, 112, 126, 1, 82);
    }

    private static void numbers(Due due, GroupBitmaps x, String when, int group, int... want) {
        for (int k = 0; k < want.length; k++) {
            int what = k;
            due.is(when + ": group(" + group + ", " + k + ")", want[k], () -> x.group(group, what));
        }
    }

    /** At the group's beginning, between taken blocks, and at its end. */
    private static void longestRun(Due due) {
        GroupBitmaps x = Make.laid(3, 140);
        x.take(550, 20, false);
        due.is("the run at the end", 82, () -> x.group(2, 5));
        x.take(580, 72, false);
        due.is("the run at the beginning", 28, () -> x.group(2, 5));
        x.take(522, 28, false);
        due.is("the run between", 10, () -> x.group(2, 5));
        x.take(571, 9, false);
        due.is("a run of one", 1, () -> x.group(2, 5));
        x.give(651, 1);
        due.is("two runs of one", 1, () -> x.group(2, 5));
        x.give(650, 1);
        due.is("a run of two at the end", 2, () -> x.group(2, 5));
    }

    /** A full group has no free block, and no run. */
    private static void fullOfBlocks(Due due) {
        for (int g = 0; g < 4; g++) {
            GroupBitmaps x = Make.laid(4, 60);
            Make.fillBlocks(x, g);
            numbers(due, x, "full", g, 256 * g, g == 3 ? 60 : 256, 0, g == 0 ? 118 : 128, 0, 0);
            int block = 256 * g + 40;
            x.give(block, 1);
            numbers(due, x, "full but one", g, 256 * g, g == 3 ? 60 : 256, 1, g == 0 ? 118 : 128, 0, 1);
        }
    }

    private static void fullOfFiles(Due due) {
        for (int g = 0; g < 4; g++) {
            GroupBitmaps x = new GroupBitmaps();
            Make.takeFiles(x, g, g == 0 ? 118 : 128);
            int free = g == 2 ? 246 : 244;
            numbers(due, x, "full of files", g, 256 * g, 256, free, 0, 0, free);
        }
    }

    /** "IllegalArgumentException: there is no such group": the last one, and the one behind it. */
    private static void lastGroup(Due due) {
        for (int groups = 1; groups <= 4; groups++) {
            GroupBitmaps x = Make.laid(groups, 50);
            int behind = groups;
            for (int what = 0; what <= 5; what++) {
                int asked = what;
                due.is(groups + " groups: is a number", true, () -> x.group(behind - 1, asked) >= 0);
                due.refuses("group(" + groups + ", " + what + ")", () -> x.group(behind, asked));
                due.refuses("group(-1, " + what + ")", () -> x.group(-1, asked));
            }
            due.is("blocks of the last of " + groups, 50, () -> x.group(behind - 1, 1));
            for (int group : Due.FAR) {
                due.refuses("group(" + group + ", 0)", () -> x.group(group, 0));
            }
        }
    }

    /** "Or number": those beside 0 and 5. */
    private static void refusedNumbers(Due due) {
        GroupBitmaps x = new GroupBitmaps();
        for (int g = 0; g < 4; g++) {
            int group = g;
            due.is("group(" + g + ", 0)", 256 * g, () -> x.group(group, 0));
            due.is("group(" + g + ", 5)", g == 2 ? 246 : 244, () -> x.group(group, 5));
            due.refuses("group(" + g + ", -1)", () -> x.group(group, -1));
            due.refuses("group(" + g + ", 6)", () -> x.group(group, 6));
            for (int what : Due.FAR) {
                due.refuses("group(" + g + ", " + what + ")", () -> x.group(group, what));
            }
        }
        due.refuses("group(4, 6)", () -> x.group(4, 6));
        due.refuses("group(-1, -1)", () -> x.group(-1, -1));
    }

    private static void changesNothing(Due due) {
        due.changesNothing("group(2, 1)", 100, Make::used, x -> x.group(2, 1));
        due.changesNothing("group(1, 5)", 207, Make::used, x -> x.group(1, 5));
        due.refusesWhole("group(3, 0)", Make::used, x -> x.group(3, 0));
        due.refusesWhole("group(0, 6)", Make::used, x -> x.group(0, 6));
    }
}
