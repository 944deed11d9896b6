/** Promise 1: a volume of four groups of 256 blocks, laid out, with block 1 and all bitmaps told. */
public final class NewObjectTest {
    private static final int[] TOLD = {1, 2, 3, 258, 259, 512, 513, 770, 771};

    public static void main(String[] args) {
        Due due = new Due();
        fourGroups(due);
        takenAtFirst(due);
        toldAtFirst(due);
        nothingReserved(due);
        laidOut(due);
        due.end();
    }

    /** "A volume of four groups, the last one with 256 blocks." */
    private static void fourGroups(Due due) {
        GroupBitmaps x = new GroupBitmaps();
        for (int g = 0; g < 4; g++) {
            int group = g;
            due.is("first block of " + g, 256 * g, () -> x.group(group, 0));
            due.is("blocks of " + g, 256, () -> x.group(group, 1));
            due.is("free blocks of " + g, g == 2 ? 246 : 244, () -> x.group(group, 2));
            due.is("free files of " + g, g == 0 ? 118 : 128, () -> x.group(group, 3));
            due.is("folders of " + g, 0, () -> x.group(group, 4));
            due.is("longest run of " + g, g == 2 ? 246 : 244, () -> x.group(group, 5));
        }
        due.refuses("group(4, 0)", () -> x.group(4, 0));
    }

    /** "Fixed blocks and files 1 to 10 are taken, all others are free." */
    private static void takenAtFirst(Due due) {
        Lookers all = new Lookers(GroupBitmaps::new);
        for (int b = 0; b < 1024; b++) {
            int block = b;
            due.is("isTaken(0, " + b + ")", b % 256 < Make.fixed(b / 256), () -> all.next().isTaken(0, block));
        }
        for (int f = 1; f <= 512; f++) {
            int file = f;
            due.is("isTaken(1, " + f + ")", f <= 10, () -> all.next().isTaken(1, file));
        }
        due.is("taken()", 0, () -> all.next().taken());
    }

    /** "Block 1 and all bitmaps are told." */
    private static void toldAtFirst(Due due) {
        Lookers all = new Lookers(GroupBitmaps::new);
        for (int b = 0; b < 1024; b++) {
            int block = b;
            boolean want = java.util.Arrays.binarySearch(TOLD, b) >= 0;
            due.is("isTold(" + b + ")", want, () -> all.next().isTold(block));
        }
        due.is("settle()", 9, () -> new GroupBitmaps().settle());
    }

    /** "No folders, nothing reserved": every free block may be taken. */
    private static void nothingReserved(Due due) {
        GroupBitmaps x = new GroupBitmaps();
        due.is("blocks that may be taken", 978, () -> Seen.takeAll(x));
    }

    /** It is as one that is laid out so. */
    private static void laidOut(Due due) {
        String laid = Seen.of(Make.laid(4, 256));
        due.is("a new object", laid, () -> Seen.of(new GroupBitmaps()));
    }
}
