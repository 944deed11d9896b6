/** Promise 9: whether a block or a file is taken. */
public final class IsTakenTest {
    public static void main(String[] args) {
        Due due = new Due();
        GroupBitmaps x = new GroupBitmaps();
        x.take(100, 2, false);
        x.takeFile(300, false);
        due.is("isTaken(0, 99)", false, () -> x.isTaken(0, 99));
        due.is("isTaken(0, 100)", true, () -> x.isTaken(0, 100));
        due.is("isTaken(0, 101)", true, () -> x.isTaken(0, 101));
        due.is("isTaken(0, 102)", false, () -> x.isTaken(0, 102));
        due.is("isTaken(0, 0)", true, () -> x.isTaken(0, 0));
        due.is("isTaken(0, 1023)", false, () -> x.isTaken(0, 1023));
        due.is("isTaken(1, 1)", true, () -> x.isTaken(1, 1));
        due.is("isTaken(1, 257)", true, () -> x.isTaken(1, 257));
        due.is("isTaken(1, 258)", false, () -> x.isTaken(1, 258));
        due.is("isTaken(1, 512)", false, () -> x.isTaken(1, 512));
        wrongInputs(due, x);
        smallVolume(due, x);
        due.end();
    }

    private static void wrongInputs(Due due, GroupBitmaps x) {
        int[] kinds = {-1, 2, Integer.MIN_VALUE, Integer.MAX_VALUE};
        for (int kind : kinds) {
            due.refuses("isTaken(" + kind + ", 20)", () -> x.isTaken(kind, 20));
        }
        int[] blocks = {-1, 1024, Integer.MIN_VALUE, Integer.MAX_VALUE};
        for (int block : blocks) {
            due.refuses("isTaken(0, " + block + ")", () -> x.isTaken(0, block));
        }
        int[] files = {0, -1, 513, Integer.MIN_VALUE, Integer.MAX_VALUE};
        for (int file : files) {
            due.refuses("isTaken(1, " + file + ")", () -> x.isTaken(1, file));
        }
    }

    private static void smallVolume(Due due, GroupBitmaps x) {
        x.lay(2, 100);
        due.is("isTaken(0, 355)", false, () -> x.isTaken(0, 355));
        due.refuses("isTaken(0, 356)", () -> x.isTaken(0, 356));
        due.is("isTaken(1, 256)", false, () -> x.isTaken(1, 256));
        due.refuses("isTaken(1, 257)", () -> x.isTaken(1, 257));
    }
}
