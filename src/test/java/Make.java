/** Volumes in states that several tests begin with. */
final class Make {
    private Make() {
    }

    static GroupBitmaps laid(int groups, int last) {
        GroupBitmaps x = new GroupBitmaps();
        x.lay(groups, last);
        return x;
    }

    /** Laid out, and nothing is told. */
    static GroupBitmaps settled(int groups, int last) {
        GroupBitmaps x = laid(groups, last);
        x.settle();
        return x;
    }

    /** Some of everything: blocks, files and folders are taken, some reserved, some blocks told. */
    static GroupBitmaps used() {
        GroupBitmaps x = laid(3, 100);
        x.takeFile(1, true);
        x.takeFile(129, true);
        x.settle();
        x.reserve(7);
        x.take(300, 5, false);
        x.takeFile(257, false);
        return x;
    }

    /** Takes every block of a group, from its first free one on, where all but the fixed are free. */
    static void fillBlocks(GroupBitmaps x, int group) {
        x.take(256 * group + fixed(group), x.group(group, 2), true);
    }

    /** Takes n files of a group that has a free block, as plain ones. */
    static void takeFiles(GroupBitmaps x, int group, int n) {
        for (int k = 0; k < n; k++) {
            x.takeFile(128 * group + 1, false);
        }
    }

    static int fixed(int group) {
        return group == 2 ? 10 : 12;
    }
}
