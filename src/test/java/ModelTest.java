/** Long mixed runs of calls, each answer compared with PlainVolume's. The same runs every time. */
public final class ModelTest {
    private static final int RUNS = 300;
    private static final int CALLS = 512;
    private static final int[] ODD = {-1, 0, 1, 2, 255, 256, 257, 1023, 1024, 1025, 4095, 4096,
        Integer.MIN_VALUE, Integer.MAX_VALUE};

    private final Due due = new Due();
    private long seed = 20261115;

    public static void main(String[] args) {
        ModelTest test = new ModelTest();
        for (int run = 0; run < RUNS; run++) {
            test.oneRun(run);
        }
        test.due.end();
    }

    private void oneRun(int run) {
        GroupBitmaps x = new GroupBitmaps();
        PlainVolume y = new PlainVolume();
        int style = run % 4;
        for (int call = 0; call < CALLS; call++) {
            String name = "run " + run + ", call " + call + ": ";
            switch (style == 3 ? below(7) : below(12)) {
                case 0:
                    if (below(40) == 0 || call == 0) {
                        lay(name, x, y);
                    } else {
                        reserve(name, x, y);
                    }
                    break;
                case 1:
                    take(name, x, y, style);
                    break;
                case 2:
                    give(name, x, y);
                    break;
                case 3, 4, 5:
                    takeFile(name, x, y, style);
                    break;
                case 6:
                    giveFile(name, x, y);
                    break;
                default:
                    look(name, x, y);
                    break;
            }
        }
        compareAll("run " + run + ", end: ", x, y);
    }

    private void lay(String name, GroupBitmaps x, PlainVolume y) {
        int groups = sometimesOdd(1 + below(4));
        int last = sometimesOdd(16 + below(below(2) == 0 ? 10 : 241));
        compare(name + "lay(" + groups + ", " + last + ")", () -> x.lay(groups, last), () -> y.lay(groups, last));
    }

    private void reserve(String name, GroupBitmaps x, PlainVolume y) {
        int n = sometimesOdd(below(101));
        compare(name + "reserve(" + n + ")", () -> x.reserve(n), () -> y.reserve(n));
    }

    private void take(String name, GroupBitmaps x, PlainVolume y, int style) {
        int goal = sometimesOdd(below(1024));
        int n = sometimesOdd(1 + below(style == 0 ? 256 : 30));
        boolean all = below(2) == 0;
        compare(name + "take(" + goal + ", " + n + ", " + all + ")",
            () -> x.take(goal, n, all), () -> y.take(goal, n, all));
        compare(name + "taken()", x::taken, y::taken);
    }

    private void give(String name, GroupBitmaps x, PlainVolume y) {
        int block = sometimesOdd(below(1024));
        int n = sometimesOdd(1 + below(below(2) == 0 ? 4 : 40));
        compare(name + "give(" + block + ", " + n + ")", () -> x.give(block, n), () -> y.give(block, n));
    }

    private void takeFile(String name, GroupBitmaps x, PlainVolume y, int style) {
        int parent = sometimesOdd(below(3) == 0 ? 2 : 1 + below(style == 3 ? 200 : 512));
        boolean folder = below(2) == 0;
        compare(name + "takeFile(" + parent + ", " + folder + ")",
            () -> x.takeFile(parent, folder), () -> y.takeFile(parent, folder));
    }

    private void giveFile(String name, GroupBitmaps x, PlainVolume y) {
        int file = sometimesOdd(1 + below(512));
        boolean folder = below(2) == 0;
        compare(name + "giveFile(" + file + ", " + folder + ")",
            () -> x.giveFile(file, folder), () -> y.giveFile(file, folder));
    }

    private void look(String name, GroupBitmaps x, PlainVolume y) {
        int kind = sometimesOdd(below(2));
        int number = sometimesOdd(below(1024));
        int what = sometimesOdd(below(6));
        int group = sometimesOdd(below(4));
        int i = sometimesOdd(below(below(2) == 0 ? 128 : 4096));
        int block = sometimesOdd(256 * below(4) + below(6));
        compare(name + "isTaken(" + kind + ", " + number + ")",
            () -> x.isTaken(kind, number), () -> y.isTaken(kind, number));
        compare(name + "group(" + group + ", " + what + ")", () -> x.group(group, what), () -> y.group(group, what));
        compare(name + "byteOf(" + block + ", " + i + ")", () -> x.byteOf(block, i), () -> y.byteOf(block, i));
        compare(name + "isTold(" + block + ")", () -> x.isTold(block), () -> y.isTold(block));
        if (below(4) == 0) {
            compare(name + "settle()", x::settle, y::settle);
        }
    }

    private void compareAll(String name, GroupBitmaps x, PlainVolume y) {
        for (int block = 0; block < 1024; block++) {
            int at = block;
            compare(name + "isTold(" + block + ")", () -> x.isTold(at), () -> y.isTold(at));
            for (int i = 0; i < 4096; i += block % 256 < 6 && i < 130 ? 1 : 453) {
                int index = i;
                compare(name + "byteOf(" + block + ", " + i + ")",
                    () -> x.byteOf(at, index), () -> y.byteOf(at, index));
            }
        }
    }

    private void compare(String name, Due.Call got, Due.Call want) {
        due.is(name, Due.answerOf(want), got);
    }

    private int sometimesOdd(int usual) {
        return below(60) == 0 ? ODD[below(ODD.length)] : usual;
    }

    private int below(int bound) {
        seed = seed * 6364136223846793005L + 1442695040888963407L;
        return (int) ((seed >>> 33) % bound);
    }
}
