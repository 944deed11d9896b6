/** Promise 3: so many blocks are reserved, in place of those before. */
public final class ReserveTest {
    public static void main(String[] args) {
        Due due = new Due();
        GroupBitmaps x = new GroupBitmaps();
        x.settle();
        due.is("reserve(100)", 878, () -> x.reserve(100));
        due.is("reserve(30) in place of 100", 948, () -> x.reserve(30));
        due.is("reserve(0)", 978, () -> x.reserve(0));
        due.is("nothing is told", 0, x::settle);
        wrongInputs(due, x);
        moreThanFree(due);
        numberStays(due);
        due.end();
    }

    private static void wrongInputs(Due due, GroupBitmaps x) {
        x.lay(1, 16);
        x.reserve(3);
        int[] wrong = {-1, 101, Integer.MIN_VALUE, Integer.MAX_VALUE};
        for (int n : wrong) {
            due.refuses("reserve(" + n + ")", () -> x.reserve(n));
        }
        x.take(12, 4, false);
        due.is("three stay reserved", 1, x::taken);
    }

    private static void moreThanFree(Due due) {
        GroupBitmaps x = new GroupBitmaps();
        x.lay(1, 16);
        due.is("reserve(4) of 4", 0, () -> x.reserve(4));
        due.is("reserve(5) of 4", 0, () -> x.reserve(5));
        due.fails("take() with all reserved", () -> x.take(12, 1, false));
        due.is("take() of reserved ones", 12, () -> x.take(12, 1, true));
        due.is("reserve(2) of 3", 1, () -> x.reserve(2));
    }

    private static void numberStays(Due due) {
        GroupBitmaps x = new GroupBitmaps();
        x.lay(1, 20);
        x.reserve(5);
        x.take(12, 6, true);
        due.fails("two free, five reserved", () -> x.take(12, 1, false));
        x.give(12, 4);
        due.is("six free, five reserved", 12, () -> x.take(12, 4, false));
        due.is("only one is taken", 1, x::taken);
    }
}
