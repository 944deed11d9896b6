import java.util.ArrayList;
import java.util.Arrays;
import java.util.List;
import java.util.TreeSet;

/**
 * The document once more, for ModelTest: it keeps the volume's bytes themselves, and
 * counts every number anew from the bits (but the folders, which only block 1 has).
 */
final class PlainVolume {
    private final byte[][] bytes = new byte[1024][4096];
    private final TreeSet<Integer> told = new TreeSet<>();
    private int groups;
    private int last;
    private int reserved;
    private int latest;

    PlainVolume() {
        lay(4, 256);
    }

    int lay(int groups, int last) {
        refuseUnless(groups >= 1 && groups <= 4 && last >= 16 && last <= 256);
        this.groups = groups;
        this.last = last;
        reserved = 0;
        latest = 0;
        Arrays.fill(bytes[1], (byte) 0);
        for (int g = 0; g < groups; g++) {
            layBitmap(blockBitmap(g), fixed(g), size(g));
            layBitmap(fileBitmap(g), g == 0 ? 10 : 0, 128);
            writeCounts(g);
        }
        return freeBlocks();
    }

    int reserve(int n) {
        refuseUnless(n >= 0 && n <= 100);
        reserved = n;
        return Math.max(0, freeBlocks() - n);
    }

    int take(int goal, int n, boolean all) {
        refuseUnless(goal >= 0 && goal < end() && n >= 1 && n <= 256);
        int most = freeBlocks() - (all ? 0 : reserved);
        failUnless(most > 0);
        int[] run = choose(goal, Math.min(n, most));
        for (int block = run[0]; block < run[0] + run[1]; block++) {
            setBit(blockBitmap(block / 256), block % 256, true);
        }
        writeCounts(run[0] / 256);
        latest = run[1];
        return run[0];
    }

    int taken() {
        return latest;
    }

    int give(int block, int n) {
        refuseUnless(n >= 1 && n <= 1024 && block >= 0 && (long) block + n <= end());
        for (int b = block; b < block + n; b++) {
            failUnless(b % 256 >= fixed(b / 256) && bit(blockBitmap(b / 256), b % 256));
        }
        for (int b = block; b < block + n; b++) {
            setBit(blockBitmap(b / 256), b % 256, false);
            writeCounts(b / 256);
        }
        return freeBlocks();
    }

    int takeFile(int parent, boolean folder) {
        refuseUnless(parent >= 1 && parent <= 128 * groups);
        failUnless(freeFiles() > 0);
        int g = folder ? groupForFolder(parent) : groupForPlain((parent - 1) / 128);
        int number = 0;
        while (bit(fileBitmap(g), number)) {
            number++;
        }
        setBit(fileBitmap(g), number, true);
        writeFolders(g, folders(g) + (folder ? 1 : 0));
        writeCounts(g);
        return 128 * g + number + 1;
    }

    int giveFile(int file, boolean folder) {
        refuseUnless(file >= 11 && file <= 128 * groups);
        int g = (file - 1) / 128;
        failUnless(bit(fileBitmap(g), (file - 1) % 128) && !(folder && folders(g) == 0));
        setBit(fileBitmap(g), (file - 1) % 128, false);
        writeFolders(g, folders(g) - (folder ? 1 : 0));
        writeCounts(g);
        return freeFiles();
    }

    boolean isTaken(int kind, int number) {
        refuseUnless(kind == 0 || kind == 1);
        if (kind == 0) {
            refuseUnless(number >= 0 && number < end());
            return bit(blockBitmap(number / 256), number % 256);
        }
        refuseUnless(number >= 1 && number <= 128 * groups);
        return bit(fileBitmap((number - 1) / 128), (number - 1) % 128);
    }

    int group(int group, int what) {
        refuseUnless(group >= 0 && group < groups && what >= 0 && what <= 5);
        int longest = 0;
        for (int[] run : runs(group)) {
            longest = Math.max(longest, run[1]);
        }
        int[] all = {256 * group, size(group), freeBlocks(group), freeFiles(group), folders(group), longest};
        return all[what];
    }

    int byteOf(int block, int i) {
        if (block < 0 || block > 1023 || i < 0 || i > 4095) {
            throw new IndexOutOfBoundsException();
        }
        return bytes[block][i] & 255;
    }

    boolean isTold(int block) {
        if (block < 0 || block > 1023) {
            throw new IndexOutOfBoundsException();
        }
        return told.contains(block);
    }

    int settle() {
        int count = told.size();
        told.clear();
        return count;
    }

    private int[] choose(int goal, int n) {
        int from = goal / 256;
        for (int[] run : runs(from)) {
            if (goal >= run[0] && goal + n <= run[0] + run[1]) {
                return new int[] {goal, n};
            }
        }
        List<int[]> inOrder = new ArrayList<>();
        for (int step = 0; step < groups; step++) {
            List<int[]> here = runs((from + step) % groups);
            int[] best = null;
            for (int[] run : here) {
                if (run[1] >= n && (best == null || run[1] < best[1])) {
                    best = run;
                }
            }
            if (best != null) {
                return new int[] {best[0], n};
            }
            inOrder.addAll(here);
        }
        int[] longest = inOrder.get(0);
        for (int[] run : inOrder) {
            longest = run[1] > longest[1] ? run : longest;
        }
        return longest;
    }

    /** Each run as its first block and its length. */
    private List<int[]> runs(int g) {
        List<int[]> runs = new ArrayList<>();
        int k = 0;
        while (k < size(g)) {
            int start = k;
            while (k < size(g) && !bit(blockBitmap(g), k)) {
                k++;
            }
            if (k > start) {
                runs.add(new int[] {256 * g + start, k - start});
            }
            k++;
        }
        return runs;
    }

    private int groupForPlain(int from) {
        int[] near = {from, (from + 1) % groups, (from + 3) % groups, (from + 7) % groups};
        for (int g : near) {
            if (freeFiles(g) > 0 && freeBlocks(g) > 0) {
                return g;
            }
        }
        return firstWithFile(from);
    }

    private int groupForFolder(int parent) {
        int from = (parent - 1) / 128;
        int averageFiles = freeFiles() / groups;
        int averageBlocks = freeBlocks() / groups;
        if (parent == 2) {
            int best = -1;
            for (int g = 0; g < groups; g++) {
                boolean fits = freeFiles(g) >= averageFiles && freeBlocks(g) >= averageBlocks && freeFiles(g) > 0;
                if (fits && (best < 0 || folders(g) < folders(best))) {
                    best = g;
                }
            }
            if (best >= 0) {
                return best;
            }
        }
        for (int step = 0; step < groups; step++) {
            int g = (from + step) % groups;
            if (freeFiles(g) >= averageFiles / 2 && freeFiles(g) > 0 && freeBlocks(g) > 0) {
                return g;
            }
        }
        return firstWithFile(from);
    }

    private int firstWithFile(int from) {
        int g = from;
        while (freeFiles(g) == 0) {
            g = (g + 1) % groups;
        }
        return g;
    }

    private void layBitmap(int block, int fixed, int size) {
        for (int k = 0; k < 8 * 4096; k++) {
            setBit(block, k, k < fixed || k >= size);
        }
    }

    private boolean bit(int block, int k) {
        return (bytes[block][k / 8] >> (k % 8) & 1) == 1;
    }

    private void setBit(int block, int k, boolean on) {
        int mask = 1 << (k % 8);
        int old = bytes[block][k / 8];
        bytes[block][k / 8] = (byte) (on ? old | mask : old & ~mask);
        told.add(block);
    }

    private void writeCounts(int g) {
        write(32 * g, blockBitmap(g), 4);
        write(32 * g + 4, fileBitmap(g), 4);
        write(32 * g + 8, fileBitmap(g) + 1, 4);
        write(32 * g + 12, freeBlocks(g), 2);
        write(32 * g + 14, freeFiles(g), 2);
        told.add(1);
    }

    private void write(int at, int number, int length) {
        for (int k = 0; k < length; k++) {
            bytes[1][at + k] = (byte) (number >> (8 * k));
        }
    }

    private int folders(int g) {
        return (bytes[1][32 * g + 16] & 255) + 256 * (bytes[1][32 * g + 17] & 255);
    }

    private void writeFolders(int g, int folders) {
        write(32 * g + 16, folders, 2);
    }

    private int blockBitmap(int g) {
        return g == 2 ? 512 : 256 * g + 2;
    }

    private int fileBitmap(int g) {
        return blockBitmap(g) + 1;
    }

    private int fixed(int g) {
        return g == 2 ? 10 : 12;
    }

    private int size(int g) {
        return g == groups - 1 ? last : 256;
    }

    private int end() {
        return 256 * (groups - 1) + last;
    }

    private int freeBlocks(int g) {
        return zeros(blockBitmap(g));
    }

    private int freeFiles(int g) {
        return zeros(fileBitmap(g));
    }

    /** All bits behind the last number are 1, and all numbers lie in the first 32 bytes. */
    private int zeros(int block) {
        int zeros = 0;
        for (int k = 0; k < 256; k++) {
            zeros += bit(block, k) ? 0 : 1;
        }
        return zeros;
    }

    private int freeBlocks() {
        int sum = 0;
        for (int g = 0; g < groups; g++) {
            sum += freeBlocks(g);
        }
        return sum;
    }

    private int freeFiles() {
        int sum = 0;
        for (int g = 0; g < groups; g++) {
            sum += freeFiles(g);
        }
        return sum;
    }

    private static void refuseUnless(boolean right) {
        if (!right) {
            throw new IllegalArgumentException();
        }
    }

    private static void failUnless(boolean right) {
        if (!right) {
            throw new IllegalStateException();
        }
    }
}
