/**
 * Keeps which blocks and files of a volume are taken. The document's promises are in
 * ../shared/DOC.md; README.md tells how to use the class.
 */
public final class GroupBitmaps {
    private static final int MOST_GROUPS = 4;
    private static final int GROUP_BLOCKS = 256;
    private static final int GROUP_FILES = 128;
    private static final int LEAST_LAST = 16;
    private static final int MOST_RESERVED = 100;
    private static final int ALL_BLOCKS = MOST_GROUPS * GROUP_BLOCKS;
    private static final int BLOCK_BYTES = 4096;

    /** The block with the counts of all groups. */
    private static final int TABLE_BLOCK = 1;
    private static final int TABLE_ROW_BYTES = 32;

    /** The one group that has no head blocks. */
    private static final int HEADLESS_GROUP = 2;
    private static final int HEAD_BLOCKS = 2;
    private static final int BITMAP_BLOCKS = 2;
    private static final int RECORD_BLOCKS = 8;

    /** Files from 1 on that are taken for good. */
    private static final int FIXED_FILES = 10;
    private static final int ROOT_FOLDER = 2;

    private static final int KIND_BLOCK = 0;
    private static final int KIND_FILE = 1;

    /** How far behind the parent's group a plain file looks for one with room. */
    private static final int[] PLAIN_STEPS = {0, 1, 3, 7};

    /** All four, also when the volume has fewer: bitmaps of groups that are no more stay. */
    private final Group[] groups = new Group[MOST_GROUPS];
    /** Groups that the volume has: always 1 .. 4, so that it may divide. */
    private int count = MOST_GROUPS;
    private int reserved;
    private int latelyTaken;
    private boolean tableTold;

    public GroupBitmaps() {
        for (int g = 0; g < MOST_GROUPS; g++) {
            groups[g] = new Group(g);
        }
        layOut(MOST_GROUPS, GROUP_BLOCKS);
    }

    public int lay(int groups, int last) throws IllegalArgumentException {
        if (groups < 1 || groups > MOST_GROUPS) {
            throw new IllegalArgumentException("groups is not 1 .. 4");
        }
        if (last < LEAST_LAST || last > GROUP_BLOCKS) {
            throw new IllegalArgumentException("last is not 16 .. 256");
        }
        layOut(groups, last);
        return freeBlocks();
    }

    public int reserve(int n) throws IllegalArgumentException {
        if (n < 0 || n > MOST_RESERVED) {
            throw new IllegalArgumentException("n is not 0 .. 100");
        }
        reserved = n;
        return takeable(false);
    }

    public int take(int goal, int n, boolean all) throws IllegalArgumentException, IllegalStateException {
        if (!hasBlock(goal)) {
            throw new IllegalArgumentException("goal is no block of a group");
        }
        if (n < 1 || n > GROUP_BLOCKS) {
            throw new IllegalArgumentException("n is not 1 .. 256");
        }
        int most = takeable(all);
        if (most < 1) {
            throw new IllegalStateException("no block may be taken");
        }
        return takeNear(goal, Math.min(n, most));
    }

    public int taken() {
        return latelyTaken;
    }

    public int give(int block, int n) throws IllegalArgumentException, IllegalStateException {
        if (n < 1 || n > ALL_BLOCKS) {
            throw new IllegalArgumentException("n is not 1 .. 1,024");
        }
        // Only behind the test of the first block: a sum block + n could overflow.
        if (!hasBlock(block) || n > allBlocks() - block) {
            throw new IllegalArgumentException("one of them is no block of a group");
        }
        if (!areGivable(block, n)) {
            throw new IllegalStateException("one of them is free, or fixed");
        }
        for (int b = block; b < block + n; b++) {
            groupOfBlock(b).blocks.free(b % GROUP_BLOCKS);
        }
        tableTold = true;
        return freeBlocks();
    }

    public int takeFile(int parent, boolean folder) throws IllegalArgumentException, IllegalStateException {
        if (!hasFile(parent)) {
            throw new IllegalArgumentException("there is no file parent");
        }
        Group chosen = folder ? groupForFolder(parent) : groupForPlain(parent);
        if (chosen == null) {
            throw new IllegalStateException("no file is free");
        }
        tableTold = true;
        return chosen.occupyFile(folder);
    }

    public int giveFile(int file, boolean folder) throws IllegalArgumentException, IllegalStateException {
        if (!hasFile(file) || file <= FIXED_FILES) {
            throw new IllegalArgumentException("it is no file from 11 on");
        }
        Group owner = groupOfFile(file);
        int number = (file - 1) % GROUP_FILES;
        if (!owner.files.isSet(number)) {
            throw new IllegalStateException("the file is free");
        }
        if (folder && owner.folders < 1) {
            throw new IllegalStateException("its group has no folder");
        }
        owner.freeFile(number, folder);
        tableTold = true;
        return freeFiles();
    }

    public boolean isTaken(int kind, int number) throws IllegalArgumentException {
        if (kind == KIND_BLOCK && hasBlock(number)) {
            return groupOfBlock(number).blocks.isSet(number % GROUP_BLOCKS);
        }
        if (kind == KIND_FILE && hasFile(number)) {
            return groupOfFile(number).files.isSet((number - 1) % GROUP_FILES);
        }
        throw new IllegalArgumentException("there is none such in the volume");
    }

    public int group(int group, int what) throws IllegalArgumentException {
        if (group < 0 || group >= count) {
            throw new IllegalArgumentException("there is no such group");
        }
        Group asked = groups[group];
        switch (what) {
            case 0:
                return asked.first;
            case 1:
                return asked.blocks.size;
            case 2:
                return asked.blocks.freeCount;
            case 3:
                return asked.files.freeCount;
            case 4:
                return asked.folders;
            case 5:
                return asked.blocks.longestRun();
            default:
                throw new IllegalArgumentException("there is no such number");
        }
    }

    public int byteOf(int block, int i) throws IndexOutOfBoundsException {
        if (block < 0 || block >= ALL_BLOCKS || i < 0 || i >= BLOCK_BYTES) {
            throw new IndexOutOfBoundsException("there is no such byte");
        }
        if (block == TABLE_BLOCK) {
            return tableByte(i);
        }
        Bitmap bitmap = groupOfBlock(block).bitmapIn(block);
        return bitmap == null ? 0 : bitmap.byteAt(i);
    }

    public boolean isTold(int block) throws IndexOutOfBoundsException {
        if (block < 0 || block >= ALL_BLOCKS) {
            throw new IndexOutOfBoundsException("there is no such block");
        }
        if (block == TABLE_BLOCK) {
            return tableTold;
        }
        Bitmap bitmap = groupOfBlock(block).bitmapIn(block);
        return bitmap != null && bitmap.told;
    }

    public int settle() {
        int told = tableTold ? 1 : 0;
        tableTold = false;
        // Not only the volume's groups: bitmaps that it has no more may still be told.
        for (int g = 0; g < MOST_GROUPS; g++) {
            told += groups[g].blocks.forgetTold();
            told += groups[g].files.forgetTold();
        }
        return told;
    }

    private void layOut(int newCount, int last) {
        count = newCount;
        for (int g = 0; g < count; g++) {
            groups[g].layOut(g == count - 1 ? last : GROUP_BLOCKS);
        }
        reserved = 0;
        latelyTaken = 0;
        tableTold = true;
    }

    private int allBlocks() {
        return (count - 1) * GROUP_BLOCKS + groups[count - 1].blocks.size;
    }

    private boolean hasBlock(int block) {
        return block >= 0 && block < allBlocks();
    }

    private boolean hasFile(int file) {
        return file >= 1 && file <= count * GROUP_FILES;
    }

    /** For blocks 0 .. 1,023 alone. */
    private Group groupOfBlock(int block) {
        return groups[block / GROUP_BLOCKS];
    }

    /** For files of the volume alone. */
    private Group groupOfFile(int file) {
        return groups[(file - 1) / GROUP_FILES];
    }

    /** Behind the last group comes group 0. */
    private Group groupBehind(Group from, int steps) {
        return groups[(from.first / GROUP_BLOCKS + steps) % count];
    }

    private int freeBlocks() {
        int sum = 0;
        for (int g = 0; g < count; g++) {
            sum += groups[g].blocks.freeCount;
        }
        return sum;
    }

    private int freeFiles() {
        int sum = 0;
        for (int g = 0; g < count; g++) {
            sum += groups[g].files.freeCount;
        }
        return sum;
    }

    private int takeable(boolean all) {
        return all ? freeBlocks() : Math.max(0, freeBlocks() - reserved);
    }

    private int takeNear(int goal, int n) {
        Group from = groupOfBlock(goal);
        int wanted = goal % GROUP_BLOCKS;
        if (from.blocks.areFree(wanted, n)) {
            return takeRun(from, wanted, n);
        }
        for (int step = 0; step < count; step++) {
            Group next = groupBehind(from, step);
            int start = next.blocks.shortestRun(n);
            if (start >= 0) {
                return takeRun(next, start, n);
            }
        }
        return takeLongestRun(from);
    }

    private int takeLongestRun(Group from) {
        Group best = from;
        int longest = from.blocks.longestRun();
        for (int step = 1; step < count; step++) {
            Group next = groupBehind(from, step);
            int length = next.blocks.longestRun();
            if (length > longest) {
                longest = length;
                best = next;
            }
        }
        return takeRun(best, best.blocks.shortestRun(longest), longest);
    }

    private int takeRun(Group owner, int start, int n) {
        for (int k = start; k < start + n; k++) {
            owner.blocks.occupy(k);
        }
        latelyTaken = n;
        tableTold = true;
        return owner.first + start;
    }

    private boolean areGivable(int block, int n) {
        for (int b = block; b < block + n; b++) {
            Group owner = groupOfBlock(b);
            int number = b % GROUP_BLOCKS;
            if (number < owner.fixed || !owner.blocks.isSet(number)) {
                return false;
            }
        }
        return true;
    }

    /** Null if no file is free. */
    private Group groupForPlain(int parent) {
        Group from = groupOfFile(parent);
        for (int step : PLAIN_STEPS) {
            Group next = groupBehind(from, step);
            if (next.hasFileAndBlock()) {
                return next;
            }
        }
        return firstWithFile(from);
    }

    /** Null if no file is free. */
    private Group groupForFolder(int parent) {
        Group from = groupOfFile(parent);
        Group chosen = parent == ROOT_FOLDER ? leastFolders(from) : null;
        if (chosen == null) {
            chosen = firstWithRoom(from);
        }
        return chosen == null ? firstWithFile(from) : chosen;
    }

    /** Null if no group reaches both averages. */
    private Group leastFolders(Group from) {
        int files = Math.max(1, freeFiles() / count);
        int blocks = freeBlocks() / count;
        Group least = null;
        for (int step = 0; step < count; step++) {
            Group next = groupBehind(from, step);
            boolean fits = next.files.freeCount >= files && next.blocks.freeCount >= blocks;
            if (fits && (least == null || next.folders < least.folders)) {
                least = next;
            }
        }
        return least;
    }

    /** Null if there is none such. */
    private Group firstWithRoom(Group from) {
        int files = freeFiles() / count / 2;
        for (int step = 0; step < count; step++) {
            Group next = groupBehind(from, step);
            if (next.files.freeCount >= files && next.hasFileAndBlock()) {
                return next;
            }
        }
        return null;
    }

    /** Null if no file is free. */
    private Group firstWithFile(Group from) {
        for (int step = 0; step < count; step++) {
            Group next = groupBehind(from, step);
            if (next.files.freeCount >= 1) {
                return next;
            }
        }
        return null;
    }

    private int tableByte(int i) {
        int row = i / TABLE_ROW_BYTES;
        return row < count ? groups[row].tableByte(i % TABLE_ROW_BYTES) : 0;
    }

    /** One group of the volume: its bitmaps, and what block 1 says of it. */
    private static final class Group {
        private final int first;
        private final int fixed;
        private final int records;
        private final Bitmap blocks;
        private final Bitmap files;
        private int folders;

        Group(int index) {
            int heads = index == HEADLESS_GROUP ? 0 : HEAD_BLOCKS;
            first = index * GROUP_BLOCKS;
            fixed = heads + BITMAP_BLOCKS + RECORD_BLOCKS;
            records = first + heads + BITMAP_BLOCKS;
            blocks = new Bitmap(first + heads, GROUP_BLOCKS);
            files = new Bitmap(first + heads + 1, GROUP_FILES);
        }

        void layOut(int size) {
            blocks.layOut(size, fixed);
            files.layOut(GROUP_FILES, first == 0 ? FIXED_FILES : 0);
            folders = 0;
        }

        /** Null if the block is no bitmap. */
        Bitmap bitmapIn(int block) {
            if (block == blocks.place) {
                return blocks;
            }
            return block == files.place ? files : null;
        }

        boolean hasFileAndBlock() {
            return files.freeCount >= 1 && blocks.freeCount >= 1;
        }

        /** Only where a file is free. */
        int occupyFile(boolean folder) {
            int number = files.leastFree();
            files.occupy(number);
            if (folder) {
                folders++;
            }
            return first / GROUP_BLOCKS * GROUP_FILES + number + 1;
        }

        void freeFile(int number, boolean folder) {
            files.free(number);
            if (folder) {
                folders--;
            }
        }

        int tableByte(int at) {
            if (at < 4) {
                return byteOfNumber(blocks.place, at);
            }
            if (at < 8) {
                return byteOfNumber(files.place, at - 4);
            }
            if (at < 12) {
                return byteOfNumber(records, at - 8);
            }
            if (at < 14) {
                return byteOfNumber(blocks.freeCount, at - 12);
            }
            if (at < 16) {
                return byteOfNumber(files.freeCount, at - 14);
            }
            return at < 18 ? byteOfNumber(folders, at - 16) : 0;
        }

        private static int byteOfNumber(int number, int k) {
            return (number >> (8 * k)) & 255;
        }
    }

    /** One bitmap block; behind the bits that are held here all its bits are 1. */
    private static final class Bitmap {
        private final int place;
        private final boolean[] bits;
        private int size;
        private int freeCount;
        private boolean told;

        /** The most numbers that a group can have are held: 256 or 128. */
        Bitmap(int place, int most) {
            this.place = place;
            bits = new boolean[most];
        }

        void layOut(int newSize, int fixed) {
            for (int k = 0; k < bits.length; k++) {
                bits[k] = k < fixed || k >= newSize;
            }
            size = newSize;
            freeCount = newSize - fixed;
            told = true;
        }

        boolean isSet(int number) {
            return number < 0 || number >= bits.length || bits[number];
        }

        void occupy(int number) {
            if (!isSet(number)) {
                bits[number] = true;
                freeCount--;
                told = true;
            }
        }

        void free(int number) {
            if (number >= 0 && number < size && bits[number]) {
                bits[number] = false;
                freeCount++;
                told = true;
            }
        }

        int byteAt(int i) {
            int value = 0;
            for (int k = 0; k < 8; k++) {
                if (isSet(8 * i + k)) {
                    value |= 1 << k;
                }
            }
            return value;
        }

        /** -1 if none is free. */
        int leastFree() {
            for (int k = 0; k < size; k++) {
                if (!isSet(k)) {
                    return k;
                }
            }
            return -1;
        }

        boolean areFree(int start, int n) {
            for (int k = start; k < start + n; k++) {
                if (isSet(k)) {
                    return false;
                }
            }
            return true;
        }

        int longestRun() {
            int longest = 0;
            int length = 0;
            for (int k = 0; k < size; k++) {
                length = isSet(k) ? 0 : length + 1;
                longest = Math.max(longest, length);
            }
            return longest;
        }

        /** Where the first of the shortest runs of n or more begins; -1 if there is none. */
        int shortestRun(int n) {
            int start = -1;
            int shortest = size + 1;
            int length = 0;
            for (int k = 0; k < size; k++) {
                length = isSet(k) ? 0 : length + 1;
                // Behind a group's end isSet() is true, so a run ends there, too.
                if (length >= n && length < shortest && isSet(k + 1)) {
                    shortest = length;
                    start = k + 1 - length;
                }
            }
            return start;
        }

        int forgetTold() {
            int wasTold = told ? 1 : 0;
            told = false;
            return wasTold;
        }
    }
}
