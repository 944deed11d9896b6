/** Promise 2: the volume is laid out anew. */
public final class LayTest {
    public static void main(String[] args) {
        Due due = new Due();
        answers(due);
        refused(due);
        stateIsNew(due);
        nothingReserved(due);
        oldBitmapsStay(due);
        oldBitmapsStayBehindCalls(due);
        tells(due);
        othersStillTold(due);
        due.end();
    }

    /** "How many free blocks it has", for the least and the most of both. */
    private static void answers(Due due) {
        int[] lasts = {16, 17, 255, 256};
        int[][] free = {{4, 5, 243, 244}, {248, 249, 487, 488}, {494, 495, 733, 734}, {738, 739, 977, 978}};
        GroupBitmaps x = new GroupBitmaps();
        for (int g = 1; g <= 4; g++) {
            for (int k = 0; k < 4; k++) {
                int groups = g;
                int last = lasts[k];
                due.is("lay(" + g + ", " + last + ")", free[g - 1][k], () -> x.lay(groups, last));
                due.is("the same again", free[g - 1][k], () -> x.lay(groups, last));
            }
        }
    }

    /** "IllegalArgumentException: groups is not 1 .. 4, or last not 16 .. 256": nothing changes, nothing is told. */
    private static void refused(Due due) {
        for (int groups : new int[] {0, 5, -1, Integer.MIN_VALUE, Integer.MAX_VALUE}) {
            for (int last : new int[] {16, 100, 256, 15}) {
                due.refusesWhole("lay(" + groups + ", " + last + ")", Make::used, x -> x.lay(groups, last));
            }
        }
        for (int last : new int[] {15, 257, 0, -16, Integer.MIN_VALUE, Integer.MAX_VALUE}) {
            for (int groups : new int[] {1, 2, 3, 4}) {
                due.refusesWhole("lay(" + groups + ", " + last + ")", Make::used, x -> x.lay(groups, last));
            }
        }
        due.refusesWhole("lay(0, 16), settled", () -> Make.settled(2, 50), x -> x.lay(0, 16));
        due.refusesWhole("lay(4, 15), settled", () -> Make.settled(2, 50), x -> x.lay(4, 15));
    }

    /** "The volume is laid out anew": as one that was never used, but for what is told. */
    private static void stateIsNew(Due due) {
        for (int groups = 1; groups <= 4; groups++) {
            for (int last : new int[] {16, 100, 256}) {
                GroupBitmaps x = Make.used();
                x.lay(4, 256);
                x.lay(groups, last);
                String want = Seen.of(Make.laid(groups, last));
                due.is("lay(" + groups + ", " + last + ") behind much use", want, () -> Seen.of(x));
            }
        }
        GroupBitmaps y = Make.used();
        y.lay(2, 20);
        due.is("taken() behind lay()", 0, y::taken);
        due.is("folders of 0", 0, () -> y.group(0, 4));
        due.is("folders of 1", 0, () -> y.group(1, 4));
        due.is("files of 0", 118, () -> y.group(0, 3));
        due.is("files of 1", 128, () -> y.group(1, 3));
        due.is("blocks of 1", 20, () -> y.group(1, 1));
        due.is("free blocks of 1", 8, () -> y.group(1, 2));
        due.is("a file that was taken", false, () -> y.isTaken(1, 11));
        due.refuses("the group that is no more", () -> y.group(2, 0));
    }

    /** "(Nothing is reserved)." */
    private static void nothingReserved(Due due) {
        GroupBitmaps x = new GroupBitmaps();
        x.reserve(100);
        x.lay(1, 16);
        due.is("take(12, 256, false)", 12, () -> x.take(12, 256, false));
        due.is("taken()", 4, x::taken);
    }

    /** "Bitmaps of groups that there are no more stay as they were." */
    private static void oldBitmapsStay(Due due) {
        GroupBitmaps x = Make.laid(4, 20);
        x.take(783, 1, false);
        x.take(600, 1, false);
        x.takeFile(385, true);
        x.lay(1, 256);
        due.is("bits of a taken block", 143, () -> x.byteOf(770, 1));
        due.is("bits behind the old end", 240, () -> x.byteOf(770, 2));
        due.is("bits behind the old end, later", 255, () -> x.byteOf(770, 3));
        due.is("bits of group 2", 1, () -> x.byteOf(512, 11));
        due.is("bits of a taken file", 1, () -> x.byteOf(771, 0));
        due.is("bits behind the files", 255, () -> x.byteOf(771, 16));
        due.is("a bitmap that is laid out", 15, () -> x.byteOf(2, 1));
        x.lay(4, 256);
        due.is("laid out again", 15, () -> x.byteOf(770, 1));
        due.is("laid out again, behind", 0, () -> x.byteOf(770, 2));
        due.is("laid out again, files", 0, () -> x.byteOf(771, 0));
        due.is("laid out again, group 2", 0, () -> x.byteOf(512, 11));
    }

    /** They stay when the groups that are left are used, filled, and laid out again. */
    private static void oldBitmapsStayBehindCalls(Due due) {
        GroupBitmaps x = new GroupBitmaps();
        x.take(300, 4, false);
        x.take(1020, 4, false);
        x.takeFile(257, false);
        x.lay(1, 16);
        Seen.takeAll(x);
        x.give(12, 4);
        x.takeFile(2, true);
        due.fails("give(12, 1)", () -> x.give(12, 1));
        x.lay(1, 20);
        due.is("blocks 300 .. 303", 240, () -> x.byteOf(258, 5));
        due.is("blocks 1,020 .. 1,023", 240, () -> x.byteOf(770, 31));
        due.is("file 257", 1, () -> x.byteOf(513, 0));
        x.lay(3, 20);
        due.is("group 1 is laid out", 0, () -> x.byteOf(258, 5));
        due.is("group 3 is still no more", 240, () -> x.byteOf(770, 31));
    }

    /** "Block 1 and all bitmaps of its groups are told." */
    private static void tells(Due due) {
        int[] told = {1, 2, 3, 258, 259, 512, 513, 770, 771};
        for (int g = 1; g <= 4; g++) {
            GroupBitmaps x = new GroupBitmaps();
            x.settle();
            x.lay(g, 16);
            for (int k = 0; k < told.length; k++) {
                int block = told[k];
                due.is("lay(" + g + ", 16): isTold(" + block + ")", k <= 2 * g, () -> x.isTold(block));
            }
            due.is("lay(" + g + ", 16): settle()", 1 + 2 * g, x::settle);
        }
    }

    /** "(Others that were still are)": those of groups that there are no more. */
    private static void othersStillTold(Due due) {
        GroupBitmaps x = new GroupBitmaps();
        x.lay(1, 16);
        due.is("all of a new object", 9, x::settle);
        x.lay(4, 16);
        x.settle();
        x.take(770, 1, false);
        x.takeFile(257, false);
        x.lay(1, 16);
        due.is("isTold(770) was, and still is", true, () -> x.isTold(770));
        due.is("isTold(771) was not", false, () -> x.isTold(771));
        due.is("isTold(512) was not", false, () -> x.isTold(512));
        due.is("isTold(513) was, and still is", true, () -> x.isTold(513));
        due.is("two others, two bitmaps and block 1", 5, x::settle);
        x.lay(1, 16);
        due.is("no others any more", 3, x::settle);
    }
}
