/** Promise 2: the volume is laid out anew. */
public final class LayTest {
    public static void main(String[] args) {
        Due due = new Due();
        answers(due);
        wrongInputs(due);
        stateIsNew(due);
        oldBitmapsStay(due);
        tells(due);
        due.end();
    }

    private static void answers(Due due) {
        GroupBitmaps x = new GroupBitmaps();
        due.is("lay(1, 16)", 4, () -> x.lay(1, 16));
        due.is("lay(1, 256)", 244, () -> x.lay(1, 256));
        due.is("lay(2, 16)", 248, () -> x.lay(2, 16));
        due.is("lay(2, 256)", 488, () -> x.lay(2, 256));
        due.is("lay(3, 16)", 494, () -> x.lay(3, 16));
        due.is("lay(3, 256)", 734, () -> x.lay(3, 256));
        due.is("lay(4, 16)", 738, () -> x.lay(4, 16));
        due.is("lay(4, 256)", 978, () -> x.lay(4, 256));
    }

    private static void wrongInputs(Due due) {
        GroupBitmaps x = new GroupBitmaps();
        x.take(100, 5, false);
        x.settle();
        int[] groups = {0, 5, -1, Integer.MIN_VALUE, Integer.MAX_VALUE};
        for (int g : groups) {
            due.refuses("lay(" + g + ", 100)", () -> x.lay(g, 100));
        }
        int[] lasts = {15, 257, 0, -16, Integer.MIN_VALUE, Integer.MAX_VALUE};
        for (int last : lasts) {
            due.refuses("lay(2, " + last + ")", () -> x.lay(2, last));
        }
        due.is("groups stay", 768, () -> x.group(3, 0));
        due.is("taken blocks stay", true, () -> x.isTaken(0, 100));
        due.is("taken() stays", 5, x::taken);
        due.is("nothing is told", 0, x::settle);
    }

    private static void stateIsNew(Due due) {
        GroupBitmaps x = new GroupBitmaps();
        x.reserve(100);
        x.take(20, 5, true);
        x.takeFile(2, true);
        x.takeFile(1, true);
        x.takeFile(1, false);
        x.lay(2, 20);
        due.is("taken()", 0, x::taken);
        due.is("nothing is reserved", 12, () -> x.take(20, 252, false));
        due.is("taken() of 244", 244, x::taken);
        due.is("take() of the rest", 268, () -> x.take(20, 256, false));
        due.is("taken() of the rest", 8, x::taken);
        due.is("folders of 0", 0, () -> x.group(0, 4));
        due.is("folders of 1", 0, () -> x.group(1, 4));
        due.is("files of 0", 118, () -> x.group(0, 3));
        due.is("files of 1", 128, () -> x.group(1, 3));
        due.is("size of 1", 20, () -> x.group(1, 1));
        due.refuses("group(2, 0)", () -> x.group(2, 0));
        due.is("isTaken(1, 11)", false, () -> x.isTaken(1, 11));
    }

    private static void oldBitmapsStay(Due due) {
        GroupBitmaps x = new GroupBitmaps();
        x.lay(4, 20);
        x.take(783, 1, false);
        x.take(600, 1, false);
        x.takeFile(385, true);
        x.lay(1, 256);
        due.is("bits of a taken block", 143, () -> x.byteOf(770, 1));
        due.is("bits behind the old end", 240, () -> x.byteOf(770, 2));
        due.is("bits behind the old end, later", 255, () -> x.byteOf(770, 3));
        due.is("bits of group 2", 1, () -> x.byteOf(512, 11));
        due.is("bits of a taken file", 1, () -> x.byteOf(771, 0));
        due.is("block 1 of group 3", 0, () -> x.byteOf(1, 96));
        due.is("folders of group 3 in block 1", 0, () -> x.byteOf(1, 112));
        x.lay(4, 256);
        due.is("laid out again", 15, () -> x.byteOf(770, 1));
        due.is("laid out again, behind", 0, () -> x.byteOf(770, 2));
        due.is("laid out again, files", 0, () -> x.byteOf(771, 0));
    }

    private static void tells(Due due) {
        GroupBitmaps x = new GroupBitmaps();
        x.settle();
        x.lay(2, 16);
        int[] told = {1, 2, 3, 258, 259};
        for (int block : told) {
            due.is("isTold(" + block + ")", true, () -> x.isTold(block));
        }
        due.is("settle() of two groups", 5, x::settle);
        x.lay(3, 16);
        x.lay(1, 16);
        due.is("isTold(512) still", true, () -> x.isTold(512));
        due.is("settle() counts those of old groups", 7, x::settle);
        x.lay(1, 16);
        due.is("settle() of one group", 3, x::settle);
    }
}
