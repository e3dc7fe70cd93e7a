/** Promise 20: what is told of the whole. */
public final class CountTest {
    private static final Checks CHECKS = new Checks("CountTest");

    private CountTest() {
    }

    private static void counts(String when, CheapProofs x, int... wants) {
        for (int what = 0; what < wants.length; what++) {
            CHECKS.due(when + ": count(" + what + ")", x.count(what), wants[what]);
        }
    }

    public static void main(String[] args) {
        CheapProofs x = new CheapProofs();
        counts("new", x, 0, 0, -5, -5, -5, -5, -5, -5, 0, 0, 0);
        Checks.typeAll(x, "0>1.2.0,1d,1>3.0,2>3,3w,9w");
        counts("typed", x, 0, 0, -5, -5, -5, -5, -5, -5, 0, 0, 26);
        x.readGame();
        counts("read", x, 6, 0, -5, -5, -5, -5, -5, -5, 5, 1, 26);
        x.clearText();
        x.begin(0);
        counts("begun", x, 6, 1, 1, 1, 0, 0, 0, 0, 5, 2, 0);
        x.open(1);
        counts("opened", x, 6, 4, 1, 2, 0, 1, 1, 1, 5, 3, 0);
        x.open(1);
        counts("opened twice", x, 6, 6, 1, 1, 0, 2, 2, 2, 5, 4, 0);
        x.open(1);
        counts("proved", x, 6, 7, 0, 9999, 1, 2, 3, 2, 5, 4, 0);
        x.begin(5);
        counts("disproved", x, 6, 1, 9999, 0, 2, 0, 0, 0, 5, 4, 0);
        x.setPosition(3, 0, 0);
        counts("no tree", x, 6, 0, -5, -5, -5, -5, -5, -5, 1, 4, 0);
        CHECKS.end();
    }
}
