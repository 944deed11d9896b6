/** Terms: the bytes of block 1. */
public final class TableTest {
    private static final int[][] ROWS = {
        {2, 0, 0, 0, 3, 0, 0, 0, 4, 0, 0, 0, 244, 0, 118, 0, 0, 0},
        {2, 1, 0, 0, 3, 1, 0, 0, 4, 1, 0, 0, 244, 0, 128, 0, 0, 0},
        {0, 2, 0, 0, 1, 2, 0, 0, 2, 2, 0, 0, 246, 0, 128, 0, 0, 0},
        {2, 3, 0, 0, 3, 3, 0, 0, 4, 3, 0, 0, 244, 0, 128, 0, 0, 0},
    };

    public static void main(String[] args) {
        Due due = new Due();
        for (int groups = 1; groups <= 4; groups++) {
            everyByte(due, groups, 256);
            everyByte(due, groups, 16);
        }
        freeBlocks(due);
        freeFiles(due);
        folders(due);
        manyFolders(due);
        groupsThatAreNoMore(due);
        due.end();
    }

    /** "32 bytes for each group", "lowest byte first"; "all other bytes of block 1 are 0". */
    private static void everyByte(Due due, int groups, int last) {
        Lookers all = new Lookers(() -> Make.laid(groups, last));
        for (int j = 0; j < 4096; j++) {
            int i = j;
            due.is("lay(" + groups + ", " + last + "): byte " + j, laidByte(groups, last, j),
                () -> all.next().byteOf(1, i));
        }
    }

    private static int laidByte(int groups, int last, int i) {
        int g = i / 32;
        if (g >= groups || i % 32 >= 18) {
            return 0;
        }
        boolean freeBlocks = i % 32 == 12;
        return freeBlocks && g == groups - 1 ? last - Make.fixed(g) : ROWS[g][i % 32];
    }

    /** "At 12 how many blocks are free (2)", down to none. */
    private static void freeBlocks(Due due) {
        for (int g = 0; g < 4; g++) {
            GroupBitmaps x = new GroupBitmaps();
            int at = 32 * g + 12;
            int free = 256 - Make.fixed(g);
            int first = 256 * g + Make.fixed(g);
            x.take(first, 1, false);
            due.is("one of " + g + " is taken", free - 1, () -> x.byteOf(1, at));
            x.take(first, free - 1, false);
            due.is("all of " + g + " are taken", 0, () -> x.byteOf(1, at));
            due.is("the files of " + g + " stay", g == 0 ? 118 : 128, () -> x.byteOf(1, at + 2));
            x.give(first + 3, 2);
            due.is("two of " + g + " are given", 2, () -> x.byteOf(1, at));
            x.give(first, 3);
            x.give(first + 5, free - 5);
            due.is("all of " + g + " are given", free, () -> x.byteOf(1, at));
            due.is("the high byte of " + g, 0, () -> x.byteOf(1, at + 1));
        }
    }

    /** "At 14 files free (2)", down to none. */
    private static void freeFiles(Due due) {
        for (int g = 0; g < 4; g++) {
            GroupBitmaps x = new GroupBitmaps();
            int at = 32 * g + 14;
            int free = g == 0 ? 118 : 128;
            Make.takeFiles(x, g, 1);
            due.is("one file of " + g + " is taken", free - 1, () -> x.byteOf(1, at));
            Make.takeFiles(x, g, free - 1);
            due.is("all files of " + g + " are taken", 0, () -> x.byteOf(1, at));
            due.is("the blocks of " + g + " stay", 256 - Make.fixed(g), () -> x.byteOf(1, at - 2));
            due.is("no folders of " + g, 0, () -> x.byteOf(1, at + 2));
            x.giveFile(128 * g + 128, false);
            due.is("one file of " + g + " is given", 1, () -> x.byteOf(1, at));
            due.is("the high byte of " + g, 0, () -> x.byteOf(1, at + 1));
        }
    }

    /** "At 16 folders (2)." */
    private static void folders(Due due) {
        for (int g = 0; g < 4; g++) {
            GroupBitmaps x = new GroupBitmaps();
            int at = 32 * g + 16;
            int parent = 128 * g + 3;
            int first = x.takeFile(parent, true);
            x.takeFile(parent, true);
            x.takeFile(parent, false);
            due.is("two folders of " + g, 2, () -> x.byteOf(1, at));
            x.giveFile(first, true);
            due.is("one folder of " + g, 1, () -> x.byteOf(1, at));
            x.giveFile(first + 1, false);
            due.is("a folder of " + g + " given as a plain file", 1, () -> x.byteOf(1, at));
            x.giveFile(first + 2, true);
            due.is("no folder of " + g, 0, () -> x.byteOf(1, at));
        }
    }

    /** Folders are counted over 255 when they are given back as plain files: 509 calls. */
    private static void manyFolders(Due due) {
        GroupBitmaps x = new GroupBitmaps();
        for (int k = 0; k < 246; k++) {
            x.takeFile(129, true);
            x.giveFile(129, false);
        }
        for (int k = 0; k < 9; k++) {
            x.takeFile(129, true);
        }
        due.is("255 folders, low byte", 255, () -> x.byteOf(1, 48));
        due.is("255 folders, high byte", 0, () -> x.byteOf(1, 49));
        x.takeFile(129, true);
        due.is("256 folders, low byte", 0, () -> x.byteOf(1, 48));
        due.is("256 folders, high byte", 1, () -> x.byteOf(1, 49));
        due.is("256 folders", 256, () -> x.group(1, 4));
        x.giveFile(130, true);
        due.is("255 folders again", 255, () -> x.byteOf(1, 48));
    }

    /** Their bytes of block 1 are 0 when it is laid out, and come again with them. */
    private static void groupsThatAreNoMore(Due due) {
        GroupBitmaps x = new GroupBitmaps();
        x.takeFile(385, true);
        x.takeFile(129, true);
        x.lay(1, 256);
        x.take(20, 3, false);
        for (int i = 32; i < 128; i++) {
            int at = i;
            due.is("byte " + i + " of one group", 0, () -> x.byteOf(1, at));
        }
        x.lay(4, 256);
        for (int i = 0; i < 128; i++) {
            int at = i;
            due.is("byte " + i + " of four groups again", laidByte(4, 256, i), () -> x.byteOf(1, at));
        }
    }
}
