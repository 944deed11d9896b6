/** Terms: the bytes of the bitmaps. */
public final class BitmapTest {
    private static final int[] BLOCK_BITMAPS = {2, 258, 512, 770};

    public static void main(String[] args) {
        Due due = new Due();
        for (int groups = 1; groups <= 4; groups++) {
            for (int last : new int[] {16, 17, 23, 24, 25, 255, 256}) {
                everyByte(due, groups, last);
            }
        }
        bitOfABlock(due);
        bitOfAFile(due);
        lastBlockOfAFullGroup(due);
        lastBlockOfAShortGroup(due);
        lastFileOfAGroup(due);
        due.end();
    }

    /** "Behind the last number of the group all bits of the 4,096 bytes are 1." */
    private static void everyByte(Due due, int groups, int last) {
        Lookers all = new Lookers(() -> Make.laid(groups, last));
        for (int g = 0; g < groups; g++) {
            int size = g == groups - 1 ? last : 256;
            for (int j = 0; j < 4096; j++) {
                int i = j;
                int blocks = BLOCK_BITMAPS[g];
                String name = "lay(" + groups + ", " + last + "): byte " + j + " of ";
                due.is(name + blocks, laidByte(j, Make.fixed(g), size), () -> all.next().byteOf(blocks, i));
                due.is(name + (blocks + 1), laidByte(j, g == 0 ? 10 : 0, 128), () -> all.next().byteOf(blocks + 1, i));
            }
        }
    }

    private static int laidByte(int j, int fixed, int size) {
        int value = 0;
        for (int k = 0; k < 8; k++) {
            int number = 8 * j + k;
            value += number < fixed || number >= size ? 1 << k : 0;
        }
        return value;
    }

    /** "Bit k of byte j belongs to the number 8 j + k of the group (block first + that ..): 1 if it is taken." */
    private static void bitOfABlock(Due due) {
        for (int g = 0; g < 4; g++) {
            GroupBitmaps x = new GroupBitmaps();
            int bitmap = BLOCK_BITMAPS[g];
            for (int k = 0; k < 8; k++) {
                int block = 256 * g + 8 * 20 + k;
                x.take(block, 1, false);
                due.is("block " + block + " is taken", 1 << k, () -> x.byteOf(bitmap, 20));
                x.give(block, 1);
                due.is("block " + block + " is given", 0, () -> x.byteOf(bitmap, 20));
            }
            due.is("the byte before", 0, () -> x.byteOf(bitmap, 19));
            due.is("the byte behind", 0, () -> x.byteOf(bitmap, 21));
        }
    }

    private static void bitOfAFile(Due due) {
        for (int g = 1; g < 4; g++) {
            GroupBitmaps x = new GroupBitmaps();
            int bitmap = BLOCK_BITMAPS[g] + 1;
            Make.takeFiles(x, g, 16);
            for (int k = 0; k < 8; k++) {
                int file = 128 * g + 1 + 8 + k;
                x.giveFile(file, false);
                due.is("file " + file + " is given", 255 - (1 << k), () -> x.byteOf(bitmap, 1));
                Make.takeFiles(x, g, 1);
                due.is("file " + file + " is taken", 255, () -> x.byteOf(bitmap, 1));
            }
            due.is("the byte before", 255, () -> x.byteOf(bitmap, 0));
            due.is("the byte behind", 0, () -> x.byteOf(bitmap, 2));
        }
    }

    private static void lastBlockOfAFullGroup(Due due) {
        GroupBitmaps x = new GroupBitmaps();
        x.take(511, 1, false);
        due.is("block 511 is taken", 128, () -> x.byteOf(258, 31));
        due.is("behind it", 255, () -> x.byteOf(258, 32));
        due.is("the next group", 0, () -> x.byteOf(512, 2));
        x.give(511, 1);
        due.is("block 511 is given", 0, () -> x.byteOf(258, 31));
        due.is("behind it, then", 255, () -> x.byteOf(258, 32));
    }

    /** Bits behind the end stay 1 in a byte that has numbers of the group, too. */
    private static void lastBlockOfAShortGroup(Due due) {
        GroupBitmaps x = Make.laid(2, 19);
        due.is("blocks 272 .. 274 are free", 248, () -> x.byteOf(258, 2));
        x.take(274, 1, false);
        due.is("block 274 is taken", 252, () -> x.byteOf(258, 2));
        x.take(272, 2, false);
        due.is("all three are taken", 255, () -> x.byteOf(258, 2));
        x.give(272, 3);
        due.is("all three are given", 248, () -> x.byteOf(258, 2));
        due.is("behind them", 255, () -> x.byteOf(258, 3));
        due.is("byte 31", 255, () -> x.byteOf(258, 31));
        due.is("byte 4,095", 255, () -> x.byteOf(258, 4095));
    }

    private static void lastFileOfAGroup(Due due) {
        GroupBitmaps x = new GroupBitmaps();
        Make.takeFiles(x, 0, 117);
        due.is("file 128 is free", 127, () -> x.byteOf(3, 15));
        Make.takeFiles(x, 0, 1);
        due.is("file 128 is taken", 255, () -> x.byteOf(3, 15));
        due.is("behind it", 255, () -> x.byteOf(3, 16));
        due.is("group 1", 0, () -> x.byteOf(259, 0));
        x.giveFile(128, false);
        due.is("file 128 is given", 127, () -> x.byteOf(3, 15));
        due.is("behind it, then", 255, () -> x.byteOf(3, 16));
    }
}
