/** Promise 13: no block is told any more. */
public final class SettleTest {
    public static void main(String[] args) {
        Due due = new Due();
        GroupBitmaps x = new GroupBitmaps();
        due.is("settle() of a new object", 9, x::settle);
        due.is("settle() again", 0, x::settle);
        due.is("isTold(1)", false, () -> x.isTold(1));
        due.is("isTold(2)", false, () -> x.isTold(2));
        due.is("isTold(771)", false, () -> x.isTold(771));
        x.take(300, 4, false);
        x.take(310, 4, false);
        due.is("one bitmap twice, and block 1", 2, x::settle);
        x.take(20, 1, false);
        x.take(600, 1, false);
        x.takeFile(129, false);
        x.giveFile(129, false);
        due.is("three bitmaps, and block 1", 4, x::settle);
        x.take(800, 1, false);
        x.takeFile(385, false);
        x.lay(1, 16);
        due.is("two of a group that is no more, two and block 1", 5, x::settle);
        due.is("settle() behind it", 0, x::settle);
        due.is("isTold(770)", false, () -> x.isTold(770));
        due.end();
    }
}
