/** Promise 10: numbers of a group. */
public final class GroupTest {
    public static void main(String[] args) {
        Due due = new Due();
        GroupBitmaps x = new GroupBitmaps();
        x.lay(3, 140);
        due.is("first block", 512, () -> x.group(2, 0));
        due.is("blocks", 140, () -> x.group(2, 1));
        due.is("free blocks", 130, () -> x.group(2, 2));
        due.is("free files", 128, () -> x.group(2, 3));
        due.is("folders", 0, () -> x.group(2, 4));
        due.is("longest run", 130, () -> x.group(2, 5));
        due.is("blocks of a group that is not the last", 256, () -> x.group(1, 1));
        x.take(550, 20, false);
        x.takeFile(257, true);
        x.takeFile(257, false);
        due.is("free blocks of 2 now", 110, () -> x.group(2, 2));
        due.is("free files of 2 now", 126, () -> x.group(2, 3));
        due.is("folders of 2 now", 1, () -> x.group(2, 4));
        due.is("the run behind", 82, () -> x.group(2, 5));
        x.take(580, 72, false);
        due.is("the run before", 28, () -> x.group(2, 5));
        x.take(522, 28, false);
        due.is("the run between", 10, () -> x.group(2, 5));
        x.take(570, 10, false);
        due.is("no run", 0, () -> x.group(2, 5));
        wrongInputs(due, x);
        due.end();
    }

    private static void wrongInputs(Due due, GroupBitmaps x) {
        int[] groups = {-1, 3, 4, Integer.MIN_VALUE, Integer.MAX_VALUE};
        for (int group : groups) {
            due.refuses("group(" + group + ", 0)", () -> x.group(group, 0));
        }
        int[] whats = {-1, 6, Integer.MIN_VALUE, Integer.MAX_VALUE};
        for (int what : whats) {
            due.refuses("group(0, " + what + ")", () -> x.group(0, what));
        }
    }
}
