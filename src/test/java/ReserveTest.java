/** Promise 3: so many blocks are reserved, in place of those before. */
public final class ReserveTest {
    public static void main(String[] args) {
        Due due = new Due();
        answers(due);
        refused(due);
        moreThanFree(due);
        fullVolume(due);
        numberStays(due);
        tellsNothing(due);
        due.end();
    }

    /** "In place of those before": "how many may be taken without them now". */
    private static void answers(Due due) {
        GroupBitmaps x = new GroupBitmaps();
        due.is("reserve(0)", 978, () -> x.reserve(0));
        due.is("reserve(1)", 977, () -> x.reserve(1));
        due.is("reserve(99)", 879, () -> x.reserve(99));
        due.is("reserve(100)", 878, () -> x.reserve(100));
        due.is("reserve(30) in place of 100", 948, () -> x.reserve(30));
        due.is("blocks that may be taken", 948, () -> Seen.takeAll(x));
        due.is("reserve(0) of the 30 that are left", 30, () -> x.reserve(0));
    }

    /** "IllegalArgumentException: n is not 0 .. 100": those before stay reserved. */
    private static void refused(Due due) {
        for (int n : new int[] {-1, 101, -100, Integer.MIN_VALUE, Integer.MAX_VALUE}) {
            due.refusesWhole("reserve(" + n + ")", Make::used, x -> x.reserve(n));
            due.refusesWhole("reserve(" + n + ") behind none", GroupBitmaps::new, x -> x.reserve(n));
        }
        GroupBitmaps x = Make.laid(1, 16);
        x.reserve(3);
        due.refuses("reserve(101)", () -> x.reserve(101));
        x.take(12, 4, false);
        due.is("three stay reserved", 1, x::taken);
    }

    /** "Perhaps more than are free": "at least 0". */
    private static void moreThanFree(Due due) {
        GroupBitmaps x = Make.laid(1, 16);
        due.is("reserve(3) of 4", 1, () -> x.reserve(3));
        due.is("reserve(4) of 4", 0, () -> x.reserve(4));
        due.fails("take() with four of four reserved", () -> x.take(12, 1, false));
        due.is("reserve(5) of 4", 0, () -> x.reserve(5));
        due.fails("take() with five of four reserved", () -> x.take(12, 1, false));
        due.is("reserve(100) of 4", 0, () -> x.reserve(100));
        due.fails("take() with 100 of four reserved", () -> x.take(12, 256, false));
        due.is("a reserved one", 12, () -> x.take(12, 1, true));
        due.is("reserve(2) of 3", 1, () -> x.reserve(2));
    }

    private static void fullVolume(Due due) {
        GroupBitmaps x = Make.laid(1, 16);
        x.take(12, 4, false);
        due.is("reserve(0) of none", 0, () -> x.reserve(0));
        due.is("reserve(1) of none", 0, () -> x.reserve(1));
        due.is("reserve(100) of none", 0, () -> x.reserve(100));
    }

    /** "(Their number stays)", also when reserved ones are taken, or blocks are given. */
    private static void numberStays(Due due) {
        GroupBitmaps x = Make.laid(1, 20);
        x.reserve(5);
        x.take(12, 6, true);
        due.fails("two are free, five reserved", () -> x.take(12, 1, false));
        x.give(12, 3);
        due.fails("five are free, five reserved", () -> x.take(12, 1, false));
        x.give(15, 1);
        due.is("six are free, five reserved", 12, () -> x.take(12, 4, false));
        due.is("only one is taken", 1, x::taken);
        due.is("four reserved ones", 13, () -> x.take(13, 4, true));
        due.is("taken()", 3, x::taken);
        x.give(12, 6);
        due.is("three may be taken", 3, () -> Seen.takeAll(x));
    }

    /** It changes no bitmap, and block 1 does not have what is reserved. */
    private static void tellsNothing(Due due) {
        GroupBitmaps x = Make.settled(2, 100);
        x.reserve(100);
        due.is("isTold(1)", false, () -> x.isTold(1));
        x.reserve(0);
        due.is("settle()", 0, x::settle);
    }
}
