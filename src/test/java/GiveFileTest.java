/** Promise 8: a file is free again. */
public final class GiveFileTest {
    public static void main(String[] args) {
        Due due = new Due();
        ordinary(due);
        statesThatFail(due);
        wrongInputs(due);
        due.end();
    }

    private static void ordinary(Due due) {
        GroupBitmaps x = new GroupBitmaps();
        x.takeFile(1, false);
        x.takeFile(1, true);
        x.takeFile(129, true);
        due.is("giveFile(11, false)", 500, () -> x.giveFile(11, false));
        due.is("giveFile(12, true)", 501, () -> x.giveFile(12, true));
        due.is("folders of 0", 0, () -> x.group(0, 4));
        due.is("a folder given as a plain one", 502, () -> x.giveFile(129, false));
        due.is("its group keeps the folder", 1, () -> x.group(1, 4));
        x.takeFile(129, false);
        due.is("a plain one given as a folder", 502, () -> x.giveFile(129, true));
        due.is("folders of 1", 0, () -> x.group(1, 4));
        due.is("isTaken(1, 129)", false, () -> x.isTaken(1, 129));
        due.is("free files of 0", 118, () -> x.group(0, 3));
        due.is("free files of 1", 128, () -> x.group(1, 3));
    }

    private static void statesThatFail(Due due) {
        GroupBitmaps x = new GroupBitmaps();
        x.takeFile(1, false);
        x.takeFile(129, true);
        x.settle();
        due.fails("giveFile(12, false): it is free", () -> x.giveFile(12, false));
        due.fails("giveFile(130, true): it is free", () -> x.giveFile(130, true));
        due.fails("giveFile(512, false): it is free", () -> x.giveFile(512, false));
        due.fails("giveFile(11, true): group 0 has no folder", () -> x.giveFile(11, true));
        due.is("isTaken(1, 11)", true, () -> x.isTaken(1, 11));
        due.is("folders of 1", 1, () -> x.group(1, 4));
        due.is("nothing is told", 0, x::settle);
        due.is("giveFile(11, false)", 501, () -> x.giveFile(11, false));
        due.fails("giveFile(11, false) twice", () -> x.giveFile(11, false));
    }

    private static void wrongInputs(Due due) {
        GroupBitmaps x = new GroupBitmaps();
        int[] wrong = {10, 1, 0, -1, 513, Integer.MIN_VALUE, Integer.MAX_VALUE};
        for (int file : wrong) {
            due.refuses("giveFile(" + file + ", false)", () -> x.giveFile(file, false));
            due.refuses("giveFile(" + file + ", true)", () -> x.giveFile(file, true));
        }
        x.takeFile(257, false);
        x.lay(2, 16);
        due.refuses("giveFile(257) of two groups", () -> x.giveFile(257, false));
        due.fails("giveFile(256) of two groups", () -> x.giveFile(256, false));
    }
}
