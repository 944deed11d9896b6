/**
 * All that can be seen of a volume, as one text: to compare two objects. It takes some 420 of
 * the 512 calls that an object is promised for, so what is looked at has made few before.
 */
final class Seen {
    private static final int[] BITMAPS = {2, 3, 258, 259, 512, 513, 770, 771};

    private Seen() {
    }

    static String of(GroupBitmaps x) {
        StringBuilder text = new StringBuilder();
        text.append("taken ").append(x.taken());
        told(text, x);
        groups(text, x);
        bytes(text, x, 1, 130);
        for (int block : BITMAPS) {
            bytes(text, x, block, block % 2 == 0 ? 33 : 17);
        }
        // The last thing that is looked at, since the volume is not the same any more.
        text.append("; may be taken ").append(takeAll(x));
        return text.toString();
    }

    /** How many blocks take() takes before it throws: the free ones without those reserved. */
    static int takeAll(GroupBitmaps x) {
        int sum = 0;
        for (int k = 0; k < 20; k++) {
            if (Due.answerOf(() -> x.take(0, 256, false)) instanceof String) {
                return sum;
            }
            sum += x.taken();
        }
        return sum;
    }

    private static void told(StringBuilder text, GroupBitmaps x) {
        text.append("; told");
        for (int block : new int[] {0, 1, 4, 255, 256, 260, 514, 768, 772, 1023}) {
            text.append(x.isTold(block) ? " " + block : "");
        }
        for (int block : BITMAPS) {
            text.append(x.isTold(block) ? " " + block : "");
        }
    }

    private static void groups(StringBuilder text, GroupBitmaps x) {
        for (int g = 0; g < 4; g++) {
            text.append("; group ").append(g);
            for (int what = 0; what < 6; what++) {
                int group = g;
                int number = what;
                text.append(' ').append(Due.answerOf(() -> x.group(group, number)));
            }
        }
    }

    private static void bytes(StringBuilder text, GroupBitmaps x, int block, int count) {
        text.append("; block ").append(block);
        for (int i = 0; i < count; i++) {
            text.append(' ').append(x.byteOf(block, i));
        }
    }
}
