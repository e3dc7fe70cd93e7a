/** Promises 7, 8, 16 and 17: the tree, its nodes and the way. */
public final class TreeTest {
    private static final Checks CHECKS = new Checks("TreeTest");

    private TreeTest() {
    }

    private static void due(String call, long got, long want) {
        CHECKS.due(call, got, want);
    }

    public static void main(String[] args) {
        begin();
        openStepByStep();
        openDefender();
        openManyTimes();
        loops();
        CHECKS.end();
    }

    private static void node(CheapProofs x, int node, int... wants) {
        for (int what = 0; what < wants.length; what++) {
            due("node(" + node + ", " + what + ")", x.node(node, what), wants[what]);
        }
    }

    private static void begin() {
        CheapProofs x = Checks.gameOf("0>1,1w,2l,3w,3>0");
        x.guess(0, 4, 5);
        due("begin open", x.begin(0), 4);
        node(x, 0, 0, -5, 4, 5, 0, -5, 0, 0);
        due("begin won", x.begin(1), 0);
        node(x, 0, 1, -5, 0, 9999, 0, -5, 0, 0);
        due("begin lost", x.begin(2), 9999);
        node(x, 0, 2, -5, 9999, 0, 0, -5, 0, 0);
        due("begin won with a move", x.begin(3), 0);
        due("begin an end", x.begin(19), 9999);
        node(x, 0, 19, -5, 9999, 0, 0, -5, 0, 0);
        due("history", x.count(9), 4);
        due("begin the same", x.begin(19), 9999);
        x.begin(0);
        x.open(1);
        due("nodes", x.count(1), 2);
        due("begin anew", x.begin(0), 4);
        due("nodes", x.count(1), 1);
        due("old nodes are gone", x.node(1, 0), -1);
        node(x, 0, 0, -5, 4, 5, 0, -5, 0, 0);
    }

    private static void openStepByStep() {
        CheapProofs x = Checks.gameOf("0>1.2,1d,1>3.4,2d,2>5,3>6,4>6,5>6,6w");
        x.guess(1, 2, 3);
        x.guess(2, 3, 4);
        x.guess(3, 5, 6);
        x.guess(4, 7, 2);
        x.guess(5, 8, 9);
        due("begin", x.begin(0), 1);
        due("way", x.way(0), 0);
        due("way", x.way(1), -5);
        due("open", x.open(1), 1);
        node(x, 0, 0, -5, 2, 7, 2, 1, 0, 0);
        node(x, 1, 1, 0, 2, 3, 0, -5, 1, 0);
        node(x, 2, 2, 0, 3, 4, 0, -5, 1, 0);
        due("way", x.way(1), 1);
        due("open", x.open(1), 1);
        node(x, 0, 0, -5, 3, 6, 2, 1, 0, 0);
        node(x, 1, 1, 0, 12, 2, 2, 3, 1, 0);
        node(x, 3, 3, 1, 5, 6, 0, -5, 2, 0);
        node(x, 4, 4, 1, 7, 2, 0, -5, 2, 0);
        due("way", x.way(0), 0);
        due("way", x.way(1), 2);
        due("way", x.way(2), -5);
        due("open", x.open(1), 1);
        node(x, 2, 2, 0, 8, 9, 1, 5, 1, 0);
        node(x, 0, 0, -5, 8, 11, 2, 1, 0, 0);
        due("open", x.open(1), 1);
        node(x, 6, 6, 5, 0, 9999, 0, -5, 3, 0);
        node(x, 5, 5, 2, 0, 9999, 1, 6, 2, 0);
        node(x, 2, 2, 0, 0, 9999, 1, 5, 1, 0);
        node(x, 0, 0, -5, 0, 9999, 2, 1, 0, 0);
        due("open no more", x.open(1), -5);
        due("no way", x.way(0), -5);
        due("opened", x.count(6), 4);
        due("recorded", x.count(9), 4);
    }

    private static void openDefender() {
        CheapProofs x = Checks.gameOf("0d,0>1.2,1>3,2>4.3,3>3,4w");
        x.guess(1, 9, 6);
        x.guess(2, 1, 5);
        x.begin(0);
        x.open(1);
        node(x, 0, 0, -5, 10, 5, 2, 1, 0, 0);
        due("the defender takes the cheaper disproof", x.way(1), 2);
        x.open(1);
        node(x, 2, 2, 0, 0, 9999, 2, 3, 1, 0);
        node(x, 0, 0, -5, 9, 6, 2, 1, 0, 0);
        due("the other way", x.way(1), 1);
    }

    private static void openManyTimes() {
        CheapProofs x = Checks.gameOf("0>1,1>2,2>3,3>4,4w");
        x.begin(0);
        due("open twice", x.open(2), 2);
        due("nodes", x.count(1), 3);
        due("one state of both", x.count(9), 3);
        due("open to the end", x.open(100), 2);
        due("proved", x.count(4), 1);
        due("open no more", x.open(100), -5);
        due("recorded", x.count(9), 4);
    }

    private static void loops() {
        CheapProofs x = Checks.gameOf("0>1.0,1d,1>2.0,2>1.3.3,3>4,4w,4>0");
        x.begin(0);
        x.open(1);
        node(x, 2, 0, 0, 9999, 0, 0, -5, 1, 1);
        node(x, 1, 1, 0, 1, 1, 0, -5, 1, 0);
        due("a loop", x.count(5), 1);
        x.open(1);
        node(x, 3, 2, 1, 1, 1, 0, -5, 2, 0);
        node(x, 4, 0, 1, 9999, 0, 0, -5, 2, 1);
        node(x, 1, 1, 0, 9999, 0, 2, 3, 1, 0);
        due("loops", x.count(5), 2);
        due("disproved", x.count(4), 2);
        // the same position on two ways is no loop, and an end on the way is none
        CheapProofs y = Checks.gameOf("0d,0>1.2,1>3,2>3,3>5,5>5");
        y.begin(0);
        due("open", y.open(100), 4);
        due("nodes", y.count(1), 6);
        due("loops", y.count(5), 1);
        node(y, 5, 5, 4, 9999, 0, 0, -5, 4, 1);
        y.begin(1);
        y.open(2);
        node(y, 2, 5, 1, 1, 1, 0, -5, 2, 0);
        // node 1 is a loop in the first tree, and none in the next one
        CheapProofs z = Checks.gameOf("0>0,1>2,2>3");
        z.begin(0);
        z.open(1);
        node(z, 1, 0, 0, 9999, 0, 0, -5, 1, 1);
        z.begin(1);
        z.open(1);
        node(z, 1, 2, 0, 1, 1, 0, -5, 1, 0);
    }
}
