/** Promise 5: how many blocks the latest take() took. */
public final class TakenTest {
    public static void main(String[] args) {
        Due due = new Due();
        GroupBitmaps x = new GroupBitmaps();
        due.is("before any take()", 0, x::taken);
        x.take(20, 7, false);
        due.is("behind take(20, 7)", 7, x::taken);
        x.take(20, 1, true);
        due.is("behind take(20, 1)", 1, x::taken);
        x.take(600, 256, false);
        due.is("fewer than were asked for", 246, x::taken);
        due.refuses("take(20, 0)", () -> x.take(20, 0, false));
        due.is("a wrong take() leaves it", 246, x::taken);
        x.give(600, 3);
        x.reserve(4);
        x.takeFile(1, false);
        due.is("other calls leave it", 246, x::taken);
        x.lay(1, 16);
        due.is("behind lay()", 0, x::taken);
        x.take(12, 256, false);
        due.is("all of the volume", 4, x::taken);
        due.fails("take() of a full volume", () -> x.take(12, 3, true));
        due.is("a take() of none leaves it", 4, x::taken);
        due.refuses("lay(1, 15)", () -> x.lay(1, 15));
        due.is("a wrong lay() leaves it", 4, x::taken);
        due.end();
    }
}
