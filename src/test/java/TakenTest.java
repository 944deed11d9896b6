/** Promise 5: how many blocks the latest take() took. */
public final class TakenTest {
    public static void main(String[] args) {
        Due due = new Due();
        before(due);
        latest(due);
        behindOneThatThrows(due);
        behindLay(due);
        otherCalls(due);
        due.end();
    }

    /** "0 before", also behind calls of take() that throw. */
    private static void before(Due due) {
        GroupBitmaps x = new GroupBitmaps();
        due.is("before any call", 0, x::taken);
        due.refuses("take(-1, 1, true)", () -> x.take(-1, 1, true));
        due.is("behind one that throws", 0, x::taken);
        x.takeFile(1, false);
        due.is("behind a file", 0, x::taken);
        x.lay(1, 16);
        x.reserve(4);
        due.fails("take(12, 1, false)", () -> x.take(12, 1, false));
        due.is("behind one that may take none", 0, x::taken);
    }

    /** "By the latest take() that took some": one, the most, less than were asked for. */
    private static void latest(Due due) {
        GroupBitmaps x = new GroupBitmaps();
        x.take(20, 7, false);
        due.is("behind take(20, 7)", 7, x::taken);
        due.is("asked twice", 7, x::taken);
        x.take(20, 1, true);
        due.is("behind take(20, 1)", 1, x::taken);
        x.take(600, 256, false);
        due.is("a whole group", 246, x::taken);
        x.lay(1, 16);
        x.take(0, 256, false);
        due.is("a whole volume", 4, x::taken);
    }

    /** "(One that throws leaves it)." */
    private static void behindOneThatThrows(Due due) {
        GroupBitmaps x = Make.laid(1, 16);
        x.take(12, 3, false);
        due.refuses("take(16, 1, false)", () -> x.take(16, 1, false));
        due.is("behind a wrong goal", 3, x::taken);
        due.refuses("take(12, 0, false)", () -> x.take(12, 0, false));
        due.is("behind a wrong n", 3, x::taken);
        x.reserve(1);
        due.fails("take(12, 1, false)", () -> x.take(12, 1, false));
        due.is("behind one with all reserved", 3, x::taken);
        x.take(15, 9, true);
        due.is("behind the last block", 1, x::taken);
        due.fails("take(12, 2, true)", () -> x.take(12, 2, true));
        due.is("behind one of a full volume", 1, x::taken);
    }

    /** "And behind lay()", but not behind one that throws. */
    private static void behindLay(Due due) {
        GroupBitmaps x = new GroupBitmaps();
        x.take(20, 7, false);
        due.refuses("lay(0, 16)", () -> x.lay(0, 16));
        due.is("behind a wrong number of groups", 7, x::taken);
        due.refuses("lay(1, 15)", () -> x.lay(1, 15));
        due.is("behind a wrong last", 7, x::taken);
        x.lay(4, 256);
        due.is("behind lay()", 0, x::taken);
        x.take(20, 2, false);
        due.is("behind the next take()", 2, x::taken);
    }

    private static void otherCalls(Due due) {
        GroupBitmaps x = new GroupBitmaps();
        x.take(20, 7, false);
        x.give(22, 3);
        x.reserve(4);
        x.takeFile(1, false);
        x.giveFile(11, false);
        x.settle();
        due.is("other calls leave it", 7, x::taken);
        x.give(20, 2);
        x.give(25, 2);
        due.is("all are given", 7, x::taken);
    }
}
