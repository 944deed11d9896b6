/** Promise 11: the bytes of all blocks; those of the bitmaps and of block 1 have tests of their own, too. */
public final class ByteOfTest {
    public static void main(String[] args) {
        Due due = new Due();
        corners(due);
        blocksOfNoMatter(due);
        takenBlocksOfNoMatter(due);
        blocksOfNoGroup(due);
        bitmapsOfNoGroup(due);
        refusedBlocks(due);
        refusedBytes(due);
        changesNothing(due);
        due.end();
    }

    /** "Byte i (0 .. 4,095) of a block: 0 .. 255": blocks 0 and 1,023, and of each bitmap and block 1 both ends. */
    private static void corners(Due due) {
        GroupBitmaps x = new GroupBitmaps();
        int[] blocks = {0, 1023, 1, 2, 3, 258, 259, 512, 513, 770, 771};
        int[] first = {0, 0, 2, 255, 255, 255, 0, 255, 0, 255, 0};
        for (int k = 0; k < blocks.length; k++) {
            int block = blocks[k];
            due.is("byteOf(" + block + ", 0)", first[k], () -> x.byteOf(block, 0));
            due.is("byteOf(" + block + ", 4095)", k < 3 ? 0 : 255, () -> x.byteOf(block, 4095));
        }
    }

    /** "All other blocks are of no matter here (their bytes are 0)." */
    private static void blocksOfNoMatter(Due due) {
        Lookers all = new Lookers(GroupBitmaps::new);
        for (int b = 0; b < 1024; b++) {
            int block = b;
            for (int i : new int[] {0, 1, 15, 16, 31, 32, 127, 128, 2048, 4094, 4095}) {
                if (!hasBytes(b)) {
                    due.is("byteOf(" + b + ", " + i + ")", 0, () -> all.next().byteOf(block, i));
                }
            }
        }
    }

    private static boolean hasBytes(int block) {
        boolean pair = block == 512 || block == 513;
        return block == 1 || pair || block / 256 != 2 && (block % 256 == 2 || block % 256 == 3);
    }

    /** Also when they are taken, and given again. */
    private static void takenBlocksOfNoMatter(Due due) {
        GroupBitmaps x = new GroupBitmaps();
        x.take(12, 244, false);
        x.take(1000, 24, false);
        due.is("byteOf(12, 0)", 0, () -> x.byteOf(12, 0));
        due.is("byteOf(255, 4095)", 0, () -> x.byteOf(255, 4095));
        due.is("byteOf(1023, 0)", 0, () -> x.byteOf(1023, 0));
        x.give(1000, 24);
        due.is("byteOf(1023, 4095)", 0, () -> x.byteOf(1023, 4095));
        x.takeFile(1, true);
        due.is("byteOf(4, 0), of records", 0, () -> x.byteOf(4, 0));
        due.is("byteOf(0, 0), a head", 0, () -> x.byteOf(0, 0));
        due.is("byteOf(257, 0), a head", 0, () -> x.byteOf(257, 0));
    }

    /** "(Blocks 0 .. 1,023, in a group or not)." */
    private static void blocksOfNoGroup(Due due) {
        GroupBitmaps x = Make.laid(1, 16);
        for (int block : new int[] {16, 17, 255, 256, 300, 511, 514, 767, 772, 1022, 1023}) {
            due.is("byteOf(" + block + ", 0) in no group", 0, () -> x.byteOf(block, 0));
            due.is("byteOf(" + block + ", 4095) in no group", 0, () -> x.byteOf(block, 4095));
            due.misses("byteOf(" + block + ", 4096) in no group", () -> x.byteOf(block, 4096));
            due.misses("byteOf(" + block + ", -1) in no group", () -> x.byteOf(block, -1));
        }
        due.misses("byteOf(1024, 0)", () -> x.byteOf(1024, 0));
    }

    /** Bitmaps of groups that there are no more are in no group, and have their bytes still. */
    private static void bitmapsOfNoGroup(Due due) {
        GroupBitmaps x = new GroupBitmaps();
        x.take(280, 3, false);
        x.lay(1, 16);
        due.is("byteOf(258, 0)", 255, () -> x.byteOf(258, 0));
        due.is("byteOf(258, 3)", 7, () -> x.byteOf(258, 3));
        due.is("byteOf(259, 15)", 0, () -> x.byteOf(259, 15));
        due.is("byteOf(259, 16)", 255, () -> x.byteOf(259, 16));
        due.is("byteOf(512, 1)", 3, () -> x.byteOf(512, 1));
        due.is("byteOf(770, 1)", 15, () -> x.byteOf(770, 1));
        due.is("byteOf(771, 4095)", 255, () -> x.byteOf(771, 4095));
    }

    /** "IndexOutOfBoundsException: there is none": the blocks beside 0 and 1,023. */
    private static void refusedBlocks(Due due) {
        GroupBitmaps x = new GroupBitmaps();
        for (int block : new int[] {-1, 1024, 1025, -1024, Integer.MIN_VALUE, Integer.MAX_VALUE}) {
            for (int i : new int[] {0, 4095, -1, 4096}) {
                due.misses("byteOf(" + block + ", " + i + ")", () -> x.byteOf(block, i));
            }
        }
    }

    /** The bytes beside 0 and 4,095, of every kind of block. */
    private static void refusedBytes(Due due) {
        GroupBitmaps x = new GroupBitmaps();
        for (int block : new int[] {0, 1, 2, 3, 4, 258, 259, 512, 513, 770, 771, 1023}) {
            for (int i : new int[] {-1, 4096, -4096, 32768, Integer.MIN_VALUE, Integer.MAX_VALUE}) {
                due.misses("byteOf(" + block + ", " + i + ")", () -> x.byteOf(block, i));
            }
        }
    }

    private static void changesNothing(Due due) {
        due.changesNothing("byteOf(1, 0)", 2, Make::used, x -> x.byteOf(1, 0));
        due.changesNothing("byteOf(258, 0)", 255, Make::used, x -> x.byteOf(258, 0));
        due.changesNothing("byteOf(1024, 0)", Due.MISSED, Make::used, x -> x.byteOf(1024, 0));
        due.changesNothing("byteOf(2, 4096)", Due.MISSED, Make::used, x -> x.byteOf(2, 4096));
    }
}
