/**
 * Looks at one volume on many objects that are all made in the same way, since nothing is
 * promised of an object behind its 512th call.
 */
final class Lookers {
    private static final int LOOKS = 128;

    private final Due.Setup setup;
    private GroupBitmaps x;
    private int left;

    /** The setup makes at most 384 calls. */
    Lookers(Due.Setup setup) {
        this.setup = setup;
    }

    /** The object for the next call; the call must change nothing. */
    GroupBitmaps next() {
        if (left == 0) {
            x = setup.volume();
            left = LOOKS;
        }
        left--;
        return x;
    }
}
