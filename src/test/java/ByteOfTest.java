/** Promise 11: the bytes of the blocks, as the terms say. */
public final class ByteOfTest {
    private static final int[] BLOCK_BITMAPS = {2, 258, 512, 770};

    public static void main(String[] args) {
        Due due = new Due();
        newVolume(due);
        table(due);
        bits(due);
        smallVolume(due);
        wrongInputs(due);
        due.end();
    }

    private static void newVolume(Due due) {
        GroupBitmaps x = new GroupBitmaps();
        for (int block = 0; block < 1024; block++) {
            for (int i = 0; i < 4096; i += block < 4 ? 1 : 31) {
                int at = block;
                int index = i;
                due.is("byteOf(" + at + ", " + i + ")", newByte(block, i), () -> x.byteOf(at, index));
            }
        }
    }

    private static int newByte(int block, int i) {
        for (int g = 0; g < 4; g++) {
            if (block == 1 && i / 32 == g) {
                return newTableByte(g, i % 32);
            }
            if (block == BLOCK_BITMAPS[g]) {
                return i == 0 || i >= 32 ? 255 : i > 1 ? 0 : g == 2 ? 3 : 15;
            }
            if (block == BLOCK_BITMAPS[g] + 1) {
                return i >= 16 ? 255 : g > 0 ? 0 : i == 0 ? 255 : i == 1 ? 3 : 0;
            }
        }
        return 0;
    }

    private static int newTableByte(int g, int at) {
        int place = BLOCK_BITMAPS[g];
        int[] row = {
            place % 256, place / 256, 0, 0, place % 256 + 1, place / 256, 0, 0,
            place % 256 + 2, place / 256, 0, 0, g == 2 ? 246 : 244, 0, g == 0 ? 118 : 128, 0,
        };
        return at < row.length ? row[at] : 0;
    }

    private static void table(Due due) {
        GroupBitmaps x = new GroupBitmaps();
        x.take(600, 6, false);
        x.takeFile(257, true);
        x.takeFile(257, false);
        x.takeFile(257, true);
        due.is("free blocks", 240, () -> x.byteOf(1, 76));
        due.is("free files", 125, () -> x.byteOf(1, 78));
        due.is("folders", 2, () -> x.byteOf(1, 80));
        x.give(601, 2);
        x.giveFile(257, true);
        due.is("free blocks, some given", 242, () -> x.byteOf(1, 76));
        due.is("free files, one given", 126, () -> x.byteOf(1, 78));
        due.is("folders, one given", 1, () -> x.byteOf(1, 80));
        due.is("group 1 beside it", 128, () -> x.byteOf(1, 46));
    }

    /** Folders are counted over 255 when they are given back as plain files. */
    private static void bits(Due due) {
        GroupBitmaps x = new GroupBitmaps();
        x.take(14, 3, false);
        due.is("blocks 14, 15", 207, () -> x.byteOf(2, 1));
        due.is("block 16", 1, () -> x.byteOf(2, 2));
        x.takeFile(1, false);
        due.is("file 11", 7, () -> x.byteOf(3, 1));
        x.take(1023, 1, false);
        due.is("block 1,023", 128, () -> x.byteOf(770, 31));
        for (int k = 0; k < 240; k++) {
            x.takeFile(129, true);
            x.giveFile(129, false);
        }
        for (int k = 0; k < 20; k++) {
            x.takeFile(129, true);
        }
        due.is("260 folders, low byte", 4, () -> x.byteOf(1, 48));
        due.is("260 folders, high byte", 1, () -> x.byteOf(1, 49));
    }

    private static void smallVolume(Due due) {
        GroupBitmaps x = new GroupBitmaps();
        x.lay(2, 19);
        due.is("the last block's byte", 248, () -> x.byteOf(258, 2));
        due.is("behind the last block", 255, () -> x.byteOf(258, 3));
        due.is("behind it, to the end", 255, () -> x.byteOf(258, 4095));
        due.is("block 1 of group 1", 7, () -> x.byteOf(1, 44));
        for (int i = 64; i < 128; i++) {
            int index = i;
            due.is("byteOf(1, " + i + ")", 0, () -> x.byteOf(1, index));
        }
        due.is("a bitmap that is no more", 3, () -> x.byteOf(512, 1));
    }

    private static void wrongInputs(Due due) {
        GroupBitmaps x = new GroupBitmaps();
        x.lay(1, 16);
        int[] blocks = {-1, 1024, Integer.MIN_VALUE, Integer.MAX_VALUE};
        for (int block : blocks) {
            due.misses("byteOf(" + block + ", 0)", () -> x.byteOf(block, 0));
        }
        int[] indexes = {-1, 4096, Integer.MIN_VALUE, Integer.MAX_VALUE};
        for (int i : indexes) {
            due.misses("byteOf(0, " + i + ")", () -> x.byteOf(0, i));
            due.misses("byteOf(1, " + i + ")", () -> x.byteOf(1, i));
            due.misses("byteOf(2, " + i + ")", () -> x.byteOf(2, i));
        }
        due.is("byteOf(1023, 4095) in no group", 0, () -> x.byteOf(1023, 4095));
    }
}
