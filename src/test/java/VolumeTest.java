/** Terms: the volume, its groups, their fixed blocks and their files. */
public final class VolumeTest {
    private static final int[] LASTS = {16, 17, 128, 255, 256};

    public static void main(String[] args) {
        Due due = new Due();
        for (int groups = 1; groups <= 4; groups++) {
            for (int last : LASTS) {
                groupsAreThese(due, groups, last);
                blocksAreThese(due, groups, last);
                filesAreThese(due, groups, last);
            }
        }
        fixedStay(due);
        filesOfGroups(due);
        nothingTwice(due);
        objectsAreApart(due);
        due.end();
    }

    /** "Group g has 256 blocks, from 256 g on; the last one has as many as is said." */
    private static void groupsAreThese(Due due, int groups, int last) {
        GroupBitmaps x = Make.laid(groups, last);
        String name = "lay(" + groups + ", " + last + "): ";
        for (int g = 0; g < groups; g++) {
            int group = g;
            int blocks = g == groups - 1 ? last : 256;
            due.is(name + "first block of " + g, 256 * g, () -> x.group(group, 0));
            due.is(name + "blocks of " + g, blocks, () -> x.group(group, 1));
            due.is(name + "free blocks of " + g, blocks - Make.fixed(g), () -> x.group(group, 2));
            due.is(name + "free files of " + g, g == 0 ? 118 : 128, () -> x.group(group, 3));
            due.is(name + "folders of " + g, 0, () -> x.group(group, 4));
            due.is(name + "longest run of " + g, blocks - Make.fixed(g), () -> x.group(group, 5));
        }
        due.refuses(name + "the group behind the last", () -> x.group(groups, 0));
    }

    /** "These 10 or 12 are FIXED": heads in the groups 0, 1 and 3, two bitmaps, eight of records. */
    private static void blocksAreThese(Due due, int groups, int last) {
        Lookers all = new Lookers(() -> Make.laid(groups, last));
        String name = "lay(" + groups + ", " + last + "): isTaken(0, ";
        int end = 256 * (groups - 1) + last;
        for (int b = 0; b < end; b++) {
            int block = b;
            due.is(name + b + ")", b % 256 < Make.fixed(b / 256), () -> all.next().isTaken(0, block));
        }
        due.refuses(name + "-1)", () -> all.next().isTaken(0, -1));
        due.refuses(name + end + ")", () -> all.next().isTaken(0, end));
    }

    /** "It has 128 FILES", from 1 on; "files 1 to 10 are taken, all others are free". */
    private static void filesAreThese(Due due, int groups, int last) {
        Lookers all = new Lookers(() -> Make.laid(groups, last));
        String name = "lay(" + groups + ", " + last + "): isTaken(1, ";
        for (int f = 1; f <= 128 * groups; f++) {
            int file = f;
            due.is(name + f + ")", f <= 10, () -> all.next().isTaken(1, file));
        }
        due.refuses(name + "0)", () -> all.next().isTaken(1, 0));
        due.refuses(name + (128 * groups + 1) + ")", () -> all.next().isTaken(1, 128 * groups + 1));
    }

    /** No fixed block can be given, and none is ever taken. */
    private static void fixedStay(Due due) {
        for (int g = 0; g < 4; g++) {
            GroupBitmaps x = new GroupBitmaps();
            for (int k = 0; k < Make.fixed(g); k++) {
                int block = 256 * g + k;
                due.fails("give(" + block + ", 1), a fixed one", () -> x.give(block, 1));
            }
            int firstFree = 256 * g + Make.fixed(g);
            due.fails("give(" + firstFree + ", 1), a free one", () -> x.give(firstFree, 1));
            for (int k = 0; k < Make.fixed(g); k++) {
                int goal = 256 * g + k;
                int next = firstFree + k;
                due.is("take(" + goal + ", 1) at a fixed one", next, () -> x.take(goal, 1, true));
            }
        }
    }

    /** "File n (from 1 on) is number (n - 1) modulo 128 of group (n - 1) / 128." */
    private static void filesOfGroups(Due due) {
        int[] parents = {1, 128, 129, 256, 257, 384, 385, 512};
        int[] files = {11, 11, 129, 129, 257, 257, 385, 385};
        int[] bitmaps = {3, 3, 259, 259, 513, 513, 771, 771};
        for (int k = 0; k < parents.length; k++) {
            GroupBitmaps x = new GroupBitmaps();
            int parent = parents[k];
            int bitmap = bitmaps[k];
            boolean zero = bitmap == 3;
            due.is("takeFile(" + parent + ", false)", files[k], () -> x.takeFile(parent, false));
            due.is("its bit in " + bitmap, zero ? 7 : 1, () -> x.byteOf(bitmap, zero ? 1 : 0));
            due.is("its free files", zero ? 117 : 127, () -> x.group((parent - 1) / 128, 3));
        }
    }

    /** "Nothing is taken twice": each block and each file comes once, until there are none. */
    private static void nothingTwice(Due due) {
        GroupBitmaps x = Make.laid(2, 40);
        boolean[] seen = new boolean[512];
        for (int k = 0; k < 272; k++) {
            int goal = k * 37 % 296;
            int block = x.take(goal, 1, false);
            due.is("block " + block + " was taken before", false, () -> seen[block]);
            seen[block] = true;
        }
        due.fails("the 273rd block", () -> x.take(0, 1, true));
        GroupBitmaps y = Make.laid(3, 256);
        boolean[] files = new boolean[512];
        for (int k = 0; k < 374; k++) {
            int file = y.takeFile(k * 59 % 384 + 1, k % 3 == 0);
            due.is("file " + file + " was taken before", false, () -> files[file] || file < 11 || file > 384);
            files[file] = true;
        }
        due.fails("the 375th file", () -> y.takeFile(2, true));
    }

    /** What one object keeps is nothing to another. */
    private static void objectsAreApart(Due due) {
        String before = Seen.of(new GroupBitmaps());
        GroupBitmaps x = new GroupBitmaps();
        Make.used();
        due.is("an object beside one that is used", before, () -> Seen.of(x));
    }
}
