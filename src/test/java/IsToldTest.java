/** Promise 12: whether a block was told as changed. */
public final class IsToldTest {
    public static void main(String[] args) {
        Due due = new Due();
        GroupBitmaps x = new GroupBitmaps();
        x.settle();
        told(due, x, "settle()");
        x.take(300, 4, false);
        told(due, x, "take()", 1, 258);
        x.takeFile(385, true);
        told(due, x, "takeFile() behind take()", 1, 258, 771);
        x.settle();
        x.give(300, 4);
        told(due, x, "give()", 1, 258);
        x.settle();
        x.giveFile(385, true);
        told(due, x, "giveFile()", 1, 771);
        x.settle();
        x.takeFile(257, false);
        told(due, x, "takeFile()", 1, 513);
        x.settle();
        callsThatTellNothing(due, x);
        x.lay(1, 16);
        told(due, x, "lay()", 1, 2, 3);
        wrongInputs(due, x);
        due.end();
    }

    private static void callsThatTellNothing(Due due, GroupBitmaps x) {
        x.reserve(10);
        x.taken();
        x.isTaken(0, 5);
        x.group(0, 5);
        x.byteOf(1, 5);
        x.isTold(1);
        due.refuses("take(0, 0, true)", () -> x.take(0, 0, true));
        due.refuses("lay(0, 16)", () -> x.lay(0, 16));
        due.refuses("takeFile(0, true)", () -> x.takeFile(0, true));
        due.fails("give(12, 1)", () -> x.give(12, 1));
        due.fails("giveFile(11, false)", () -> x.giveFile(11, false));
        told(due, x, "calls that change nothing");
    }

    private static void told(Due due, GroupBitmaps x, String call, int... blocks) {
        for (int block = 0; block < 1024; block++) {
            boolean want = false;
            for (int one : blocks) {
                want |= one == block;
            }
            int asked = block;
            due.is("behind " + call + " isTold(" + block + ")", want, () -> x.isTold(asked));
        }
    }

    private static void wrongInputs(Due due, GroupBitmaps x) {
        int[] wrong = {-1, 1024, Integer.MIN_VALUE, Integer.MAX_VALUE};
        for (int block : wrong) {
            due.misses("isTold(" + block + ")", () -> x.isTold(block));
        }
        due.is("isTold(1023) in no group", false, () -> x.isTold(1023));
    }
}
