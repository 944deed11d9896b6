/**
 * Long mixed runs of calls, each answer compared with PlainVolume's. The same runs every time,
 * and none goes over the 512 calls that an object is promised for.
 */
public final class ModelTest {
    private static final int RUNS = 600;
    private static final int CALLS = 512;
    /** What compareAll() takes, and what one call of the run may take more. */
    private static final int LOOKS = 314;
    private static final int[] BITMAPS = {2, 3, 258, 259, 512, 513, 770, 771};
    private static final int[] ODD = {-1, 0, 1, 2, 255, 256, 257, 1023, 1024, 1025, 4095, 4096,
        Integer.MIN_VALUE, Integer.MAX_VALUE};

    private final Due due = new Due();
    private long seed = 20261115;
    /** Calls that the object of this run may have still. */
    private int left;

    public static void main(String[] args) {
        ModelTest test = new ModelTest();
        for (int run = 0; run < RUNS; run++) {
            test.oneRun(run);
        }
        test.due.end();
    }

    /** Every second run is looked at as a whole, at its end; the others are longer for that. */
    private void oneRun(int run) {
        GroupBitmaps x = new GroupBitmaps();
        PlainVolume y = new PlainVolume();
        boolean looked = run % 2 == 0;
        left = CALLS;
        String name = "run " + run + ": ";
        lay(name, x, y);
        if (run / 2 % 4 == 2) {
            fill(name, x, y);
        }
        while (left > (looked ? LOOKS : 0)) {
            oneCall(name, x, y, run / 2 % 4);
        }
        if (looked) {
            compareAll(name, x, y);
        }
    }

    private void oneCall(String name, GroupBitmaps x, PlainVolume y, int style) {
        switch (style == 3 ? below(7) : below(12)) {
            case 0:
                if (below(40) == 0) {
                    lay(name, x, y);
                } else {
                    reserve(name, x, y);
                }
                break;
            case 1:
                take(name, x, y, style);
                break;
            case 2:
                give(name, x, y);
                break;
            case 3, 4, 5:
                takeFile(name, x, y, style);
                break;
            case 6:
                giveFile(name, x, y);
                break;
            default:
                look(name, x, y);
                break;
        }
    }

    /** In a full volume more calls of give() find what they may give, and leave short runs. */
    private void fill(String name, GroupBitmaps x, PlainVolume y) {
        for (int k = 0; k < 5; k++) {
            compare(name + "take(0, 256, true)", () -> x.take(0, 256, true), () -> y.take(0, 256, true));
        }
    }

    private void lay(String name, GroupBitmaps x, PlainVolume y) {
        int groups = sometimesOdd(1 + below(4));
        int last = sometimesOdd(16 + below(below(2) == 0 ? 10 : 241));
        compare(name + "lay(" + groups + ", " + last + ")", () -> x.lay(groups, last), () -> y.lay(groups, last));
    }

    private void reserve(String name, GroupBitmaps x, PlainVolume y) {
        int n = sometimesOdd(below(101));
        compare(name + "reserve(" + n + ")", () -> x.reserve(n), () -> y.reserve(n));
    }

    private void take(String name, GroupBitmaps x, PlainVolume y, int style) {
        int goal = sometimesOdd(below(1024));
        int n = sometimesOdd(1 + below(style == 0 ? 256 : 30));
        boolean all = below(2) == 0;
        compare(name + "take(" + goal + ", " + n + ", " + all + ")",
            () -> x.take(goal, n, all), () -> y.take(goal, n, all));
        compare(name + "taken()", x::taken, y::taken);
    }

    private void give(String name, GroupBitmaps x, PlainVolume y) {
        int block = sometimesOdd(below(1024));
        int n = sometimesOdd(1 + below(below(2) == 0 ? 4 : 40));
        compare(name + "give(" + block + ", " + n + ")", () -> x.give(block, n), () -> y.give(block, n));
    }

    private void takeFile(String name, GroupBitmaps x, PlainVolume y, int style) {
        int parent = sometimesOdd(below(3) == 0 ? 2 : 1 + below(style == 3 ? 200 : 512));
        boolean folder = below(2) == 0;
        compare(name + "takeFile(" + parent + ", " + folder + ")",
            () -> x.takeFile(parent, folder), () -> y.takeFile(parent, folder));
    }

    private void giveFile(String name, GroupBitmaps x, PlainVolume y) {
        int file = sometimesOdd(1 + below(512));
        boolean folder = below(2) == 0;
        compare(name + "giveFile(" + file + ", " + folder + ")",
            () -> x.giveFile(file, folder), () -> y.giveFile(file, folder));
    }

    private void look(String name, GroupBitmaps x, PlainVolume y) {
        int kind = sometimesOdd(below(2));
        int number = sometimesOdd(below(1024));
        int what = sometimesOdd(below(6));
        int group = sometimesOdd(below(4));
        int i = sometimesOdd(below(below(2) == 0 ? 128 : 4096));
        int block = sometimesOdd(256 * below(4) + below(6));
        compare(name + "isTaken(" + kind + ", " + number + ")",
            () -> x.isTaken(kind, number), () -> y.isTaken(kind, number));
        compare(name + "group(" + group + ", " + what + ")", () -> x.group(group, what), () -> y.group(group, what));
        compareByte(name, x, y, block, i);
        compare(name + "isTold(" + block + ")", () -> x.isTold(block), () -> y.isTold(block));
        if (below(4) == 0) {
            compare(name + "settle()", x::settle, y::settle);
        }
    }

    private void compareAll(String name, GroupBitmaps x, PlainVolume y) {
        for (int i = 0; i < 128; i++) {
            if (i % 32 < 19) {
                compareByte(name, x, y, 1, i);
            }
        }
        for (int block : BITMAPS) {
            compare(name + "isTold(" + block + ")", () -> x.isTold(block), () -> y.isTold(block));
            for (int i = 0; i < (block % 2 == 0 ? 33 : 17); i++) {
                compareByte(name, x, y, block, i);
            }
        }
        for (int g = 0; g < 4; g++) {
            for (int what = 0; what < 6; what++) {
                int group = g;
                int number = what;
                compare(name + "group(" + g + ", " + what + ")",
                    () -> x.group(group, number), () -> y.group(group, number));
            }
        }
        compare(name + "settle()", x::settle, y::settle);
    }

    private void compareByte(String name, GroupBitmaps x, PlainVolume y, int block, int i) {
        compare(name + "byteOf(" + block + ", " + i + ")", () -> x.byteOf(block, i), () -> y.byteOf(block, i));
    }

    private void compare(String name, Due.Call got, Due.Call want) {
        if (left > 0) {
            left--;
            due.is(name, Due.answerOf(want), got);
        }
    }

    private int sometimesOdd(int usual) {
        return below(60) == 0 ? ODD[below(ODD.length)] : usual;
    }

    private int below(int bound) {
        seed = seed * 6364136223846793005L + 1442695040888963407L;
        return (int) ((seed >>> 33) % bound);
    }
}
