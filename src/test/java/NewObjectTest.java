/** Promise 1: a volume of four groups of 256 blocks, laid out, with block 1 and all bitmaps told. */
public final class NewObjectTest {
    private static final int[] FIRST = {0, 256, 512, 768};
    private static final int[] FIXED = {12, 12, 10, 12};
    private static final int[] TOLD = {1, 2, 3, 258, 259, 512, 513, 770, 771};

    public static void main(String[] args) {
        Due due = new Due();
        GroupBitmaps x = new GroupBitmaps();
        for (int g = 0; g < 4; g++) {
            checkGroup(due, x, g);
        }
        due.refuses("group(4, 0)", () -> x.group(4, 0));
        checkTold(due, x);
        due.is("settle()", 9, x::settle);
        due.is("taken()", 0, x::taken);
        due.is("may be taken", 978, () -> x.reserve(0));
        due.end();
    }

    private static void checkGroup(Due due, GroupBitmaps x, int g) {
        due.is("first block of " + g, FIRST[g], () -> x.group(g, 0));
        due.is("blocks of " + g, 256, () -> x.group(g, 1));
        due.is("free blocks of " + g, 256 - FIXED[g], () -> x.group(g, 2));
        due.is("free files of " + g, g == 0 ? 118 : 128, () -> x.group(g, 3));
        due.is("folders of " + g, 0, () -> x.group(g, 4));
        due.is("longest run of " + g, 256 - FIXED[g], () -> x.group(g, 5));
        for (int k = 0; k < 256; k++) {
            int block = FIRST[g] + k;
            due.is("isTaken(0, " + block + ")", k < FIXED[g], () -> x.isTaken(0, block));
        }
        for (int k = 1; k <= 128; k++) {
            int file = 128 * g + k;
            due.is("isTaken(1, " + file + ")", file <= 10, () -> x.isTaken(1, file));
        }
    }

    private static void checkTold(Due due, GroupBitmaps x) {
        for (int block = 0; block < 1024; block++) {
            int asked = block;
            boolean want = java.util.Arrays.binarySearch(TOLD, block) >= 0;
            due.is("isTold(" + block + ")", want, () -> x.isTold(asked));
        }
    }
}
