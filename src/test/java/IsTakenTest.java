/** Promise 9: whether a block or a file is taken. */
public final class IsTakenTest {
    public static void main(String[] args) {
        Due due = new Due();
        blocks(due);
        files(due);
        lastBlock(due);
        lastFile(due);
        otherKinds(due);
        farNumbers(due);
        groupsThatAreNoMore(due);
        changesNothing(due);
        due.end();
    }

    private static void blocks(Due due) {
        GroupBitmaps x = new GroupBitmaps();
        x.take(100, 2, false);
        due.is("isTaken(0, 0)", true, () -> x.isTaken(0, 0));
        due.is("isTaken(0, 11)", true, () -> x.isTaken(0, 11));
        due.is("isTaken(0, 12)", false, () -> x.isTaken(0, 12));
        due.is("isTaken(0, 99)", false, () -> x.isTaken(0, 99));
        due.is("isTaken(0, 100)", true, () -> x.isTaken(0, 100));
        due.is("isTaken(0, 101)", true, () -> x.isTaken(0, 101));
        due.is("isTaken(0, 102)", false, () -> x.isTaken(0, 102));
        x.give(101, 1);
        due.is("isTaken(0, 101), given", false, () -> x.isTaken(0, 101));
        due.is("isTaken(0, 356): the same number of group 1", false, () -> x.isTaken(0, 356));
        due.is("isTaken(1, 100): a file", false, () -> x.isTaken(1, 100));
    }

    private static void files(Due due) {
        GroupBitmaps x = new GroupBitmaps();
        x.takeFile(300, false);
        due.is("isTaken(1, 1)", true, () -> x.isTaken(1, 1));
        due.is("isTaken(1, 10)", true, () -> x.isTaken(1, 10));
        due.is("isTaken(1, 11)", false, () -> x.isTaken(1, 11));
        due.is("isTaken(1, 256)", false, () -> x.isTaken(1, 256));
        due.is("isTaken(1, 257)", true, () -> x.isTaken(1, 257));
        due.is("isTaken(1, 258)", false, () -> x.isTaken(1, 258));
        x.giveFile(257, false);
        due.is("isTaken(1, 257), given", false, () -> x.isTaken(1, 257));
        due.is("isTaken(0, 300): a block", false, () -> x.isTaken(0, 300));
    }

    /** "IllegalArgumentException: there is none such in the volume": the last block, and the one behind it. */
    private static void lastBlock(Due due) {
        for (int groups = 1; groups <= 4; groups++) {
            for (int last : new int[] {16, 17, 100, 255, 256}) {
                GroupBitmaps x = Make.laid(groups, last);
                int end = 256 * (groups - 1) + last;
                String name = "lay(" + groups + ", " + last + "): isTaken(0, ";
                due.is(name + (end - 1) + ")", false, () -> x.isTaken(0, end - 1));
                x.take(end - 1, 1, false);
                due.is(name + (end - 1) + "), taken", true, () -> x.isTaken(0, end - 1));
                due.refuses(name + end + ")", () -> x.isTaken(0, end));
                due.refuses(name + "1024)", () -> x.isTaken(0, 1024));
                due.refuses(name + "-1)", () -> x.isTaken(0, -1));
            }
        }
    }

    /** The last file, and the one behind it; there is no file 0. */
    private static void lastFile(Due due) {
        for (int groups = 1; groups <= 4; groups++) {
            GroupBitmaps x = Make.laid(groups, 16);
            int last = 128 * groups;
            String name = groups + " groups: isTaken(1, ";
            due.is(name + last + ")", false, () -> x.isTaken(1, last));
            Make.takeFiles(x, groups - 1, groups == 1 ? 118 : 128);
            due.is(name + last + "), taken", true, () -> x.isTaken(1, last));
            due.refuses(name + (last + 1) + ")", () -> x.isTaken(1, last + 1));
            due.refuses(name + "0)", () -> x.isTaken(1, 0));
            due.refuses(name + "-1)", () -> x.isTaken(1, -1));
        }
    }

    /** "A block (kind 0) or a file (1)": there are no other kinds. */
    private static void otherKinds(Due due) {
        GroupBitmaps x = new GroupBitmaps();
        for (int kind : new int[] {-1, 2, 3, 256, Integer.MIN_VALUE, Integer.MAX_VALUE}) {
            for (int number : new int[] {0, 1, 20, 512, 1023, -1, 1024}) {
                due.refuses("isTaken(" + kind + ", " + number + ")", () -> x.isTaken(kind, number));
            }
        }
    }

    private static void farNumbers(Due due) {
        GroupBitmaps x = new GroupBitmaps();
        for (int number : Due.FAR) {
            due.refuses("isTaken(0, " + number + ")", () -> x.isTaken(0, number));
            due.refuses("isTaken(1, " + number + ")", () -> x.isTaken(1, number));
        }
    }

    /** Their bitmaps stay, but their blocks and files are none of the volume. */
    private static void groupsThatAreNoMore(Due due) {
        GroupBitmaps x = new GroupBitmaps();
        x.take(300, 1, false);
        x.takeFile(129, false);
        x.lay(1, 256);
        due.refuses("isTaken(0, 256)", () -> x.isTaken(0, 256));
        due.refuses("isTaken(0, 300)", () -> x.isTaken(0, 300));
        due.refuses("isTaken(1, 129)", () -> x.isTaken(1, 129));
        x.lay(2, 256);
        due.is("isTaken(0, 300), laid out anew", false, () -> x.isTaken(0, 300));
        due.is("isTaken(1, 129), laid out anew", false, () -> x.isTaken(1, 129));
    }

    private static void changesNothing(Due due) {
        due.changesNothing("isTaken(0, 300)", true, Make::used, x -> x.isTaken(0, 300));
        due.changesNothing("isTaken(1, 12)", false, Make::used, x -> x.isTaken(1, 12));
        due.refusesWhole("isTaken(2, 1)", Make::used, x -> x.isTaken(2, 1));
        due.refusesWhole("isTaken(0, 612)", Make::used, x -> x.isTaken(0, 612));
        due.refusesWhole("isTaken(1, 385)", Make::used, x -> x.isTaken(1, 385));
    }
}
