/** Promises 7, 8, 16 and 17: the tree, its nodes and the way. */
public final class TreeTest {
    private static final int MOST = Integer.MAX_VALUE;
    private static final int LEAST = Integer.MIN_VALUE;
    private static final Checks CHECKS = new Checks("TreeTest");

    private TreeTest() {
    }

    private static void due(String call, long got, long want) {
        CHECKS.due(call, got, want);
    }

    public static void main(String[] args) {
        begin();
        openStepByStep();
        openDefender();
        openManyTimes();
        openWrong();
        firstOfEqualOnes();
        loops();
        never();
        full();
        fullByOne();
        nodeWrong();
        wayWrong();
        deepest();
        CHECKS.end();
    }

    private static void node(CheapProofs x, int node, int... wants) {
        for (int what = 0; what < wants.length; what++) {
            due("node(" + node + ", " + what + ")", x.node(node, what), wants[what]);
        }
    }

    private static void begin() {
        CheapProofs x = Checks.gameOf("0>1,1w,2l,3w,3>0");
        x.guess(0, 4, 5);
        due("begin open", x.begin(0), 4);
        node(x, 0, 0, -5, 4, 5, 0, -5, 0, 0);
        due("begin won", x.begin(1), 0);
        node(x, 0, 1, -5, 0, 9999, 0, -5, 0, 0);
        due("begin lost", x.begin(2), 9999);
        node(x, 0, 2, -5, 9999, 0, 0, -5, 0, 0);
        due("begin won with a move", x.begin(3), 0);
        due("begin an end", x.begin(19), 9999);
        node(x, 0, 19, -5, 9999, 0, 0, -5, 0, 0);
        due("history", x.count(9), 4);
        due("begin the same", x.begin(19), 9999);
        x.begin(0);
        x.open(1);
        due("nodes", x.count(1), 2);
        int[] positions = {-1, 20, MOST, LEAST};
        for (int p : positions) {
            due("begin unknown", x.begin(p), -1);
        }
        due("the tree stays", x.count(1), 2);
        due("begin anew", x.begin(0), 4);
        due("nodes", x.count(1), 1);
        due("old nodes are gone", x.node(1, 0), -1);
        node(x, 0, 0, -5, 4, 5, 0, -5, 0, 0);
    }

    private static void openStepByStep() {
        CheapProofs x = Checks.gameOf("0>1.2,1d,1>3.4,2d,2>5,3>6,4>6,5>6,6w");
        x.guess(1, 2, 3);
        x.guess(2, 3, 4);
        x.guess(3, 5, 6);
        x.guess(4, 7, 2);
        x.guess(5, 8, 9);
        due("begin", x.begin(0), 1);
        due("way", x.way(0), 0);
        due("way", x.way(1), -5);
        due("open", x.open(1), 1);
        node(x, 0, 0, -5, 2, 7, 2, 1, 0, 0);
        node(x, 1, 1, 0, 2, 3, 0, -5, 1, 0);
        node(x, 2, 2, 0, 3, 4, 0, -5, 1, 0);
        due("way", x.way(1), 1);
        due("open", x.open(1), 1);
        node(x, 0, 0, -5, 3, 6, 2, 1, 0, 0);
        node(x, 1, 1, 0, 12, 2, 2, 3, 1, 0);
        node(x, 3, 3, 1, 5, 6, 0, -5, 2, 0);
        node(x, 4, 4, 1, 7, 2, 0, -5, 2, 0);
        due("way", x.way(0), 0);
        due("way", x.way(1), 2);
        due("way", x.way(2), -5);
        due("open", x.open(1), 1);
        node(x, 2, 2, 0, 8, 9, 1, 5, 1, 0);
        node(x, 0, 0, -5, 8, 11, 2, 1, 0, 0);
        due("open", x.open(1), 1);
        node(x, 6, 6, 5, 0, 9999, 0, -5, 3, 0);
        node(x, 5, 5, 2, 0, 9999, 1, 6, 2, 0);
        node(x, 2, 2, 0, 0, 9999, 1, 5, 1, 0);
        node(x, 0, 0, -5, 0, 9999, 2, 1, 0, 0);
        due("open no more", x.open(1), -5);
        due("no way", x.way(0), -5);
        due("opened", x.count(6), 4);
        due("recorded", x.count(9), 4);
    }

    private static void openDefender() {
        CheapProofs x = Checks.gameOf("0d,0>1.2,1>3,2>4.3,3>3,4w");
        x.guess(1, 9, 6);
        x.guess(2, 1, 5);
        x.begin(0);
        x.open(1);
        node(x, 0, 0, -5, 10, 5, 2, 1, 0, 0);
        due("the defender takes the cheaper disproof", x.way(1), 2);
        x.open(1);
        node(x, 2, 2, 0, 0, 9999, 2, 3, 1, 0);
        node(x, 0, 0, -5, 9, 6, 2, 1, 0, 0);
        due("the other way", x.way(1), 1);
    }

    private static void openManyTimes() {
        CheapProofs x = Checks.gameOf("0>1,1>2,2>3,3>4,4w");
        x.begin(0);
        due("open twice", x.open(2), 2);
        due("nodes", x.count(1), 3);
        due("one state of both", x.count(9), 3);
        due("open to the end", x.open(100), 2);
        due("proved", x.count(4), 1);
        due("open no more", x.open(100), -5);
        due("recorded", x.count(9), 4);
    }

    private static void openWrong() {
        CheapProofs x = new CheapProofs();
        int[] times = {0, -1, 101, MOST, LEAST};
        for (int t : times) {
            due("open bad before not possible", x.open(t), -2);
        }
        due("open without a tree", x.open(1), -4);
        due("open without a tree", x.open(100), -4);
        x.begin(0);
        due("open decided", x.open(1), -5);
        for (int t : times) {
            due("open bad before none", x.open(t), -2);
        }
        due("recorded", x.count(9), 1);
    }

    private static void firstOfEqualOnes() {
        CheapProofs x = Checks.gameOf("0>1.2.3,1>9,2>9,3>9,9>0");
        x.guess(1, 3, 1);
        x.guess(2, 2, 9);
        x.guess(3, 2, 1);
        x.begin(0);
        x.open(1);
        due("first of the least to prove", x.way(1), 2);
        x.setPosition(0, 1, 0);
        x.begin(0);
        x.open(1);
        due("first of the least to disprove", x.way(1), 1);
    }

    private static void loops() {
        CheapProofs x = Checks.gameOf("0>1.0,1d,1>2.0,2>1.3.3,3>4,4w,4>0");
        x.begin(0);
        x.open(1);
        node(x, 2, 0, 0, 9999, 0, 0, -5, 1, 1);
        node(x, 1, 1, 0, 1, 1, 0, -5, 1, 0);
        due("a loop", x.count(5), 1);
        x.open(1);
        node(x, 3, 2, 1, 1, 1, 0, -5, 2, 0);
        node(x, 4, 0, 1, 9999, 0, 0, -5, 2, 1);
        node(x, 1, 1, 0, 9999, 0, 2, 3, 1, 0);
        due("loops", x.count(5), 2);
        due("disproved", x.count(4), 2);
        // the same position on two ways is no loop, and an end on the way is none
        CheapProofs y = Checks.gameOf("0d,0>1.2,1>3,2>3,3>5,5>5");
        y.begin(0);
        due("open", y.open(100), 4);
        due("nodes", y.count(1), 6);
        due("loops", y.count(5), 1);
        node(y, 5, 5, 4, 9999, 0, 0, -5, 4, 1);
        y.begin(1);
        y.open(2);
        node(y, 2, 5, 1, 1, 1, 0, -5, 2, 0);
        // node 1 is a loop in the first tree, and none in the next one
        CheapProofs z = Checks.gameOf("0>0,1>2,2>3");
        z.begin(0);
        z.open(1);
        node(z, 1, 0, 0, 9999, 0, 0, -5, 1, 1);
        z.begin(1);
        z.open(1);
        node(z, 1, 2, 0, 1, 1, 0, -5, 1, 0);
    }

    private static void never() {
        // two children that are never disproved: the sum stops at 9999
        CheapProofs x = Checks.gameOf("0>1.2.3,1w,2w,3>0");
        x.begin(0);
        x.open(1);
        node(x, 0, 0, -5, 0, 9999, 3, 1, 0, 0);
        CheapProofs y = Checks.gameOf("0d,0>1.2.3,1l,2l,3>0");
        y.begin(0);
        y.open(1);
        node(y, 0, 0, -5, 9999, 0, 3, 1, 0, 0);
    }

    /** Seven positions of which each leads to eight, itself too, and a way that ends in a loop: nothing is won. */
    private static CheapProofs wide() {
        CheapProofs x = new CheapProofs();
        for (int from = 0; from < 7; from++) {
            for (int to = 0; to < 8; to++) {
                x.addMove(from, to);
            }
        }
        x.addMove(7, 8);
        x.addMove(8, 9);
        x.addMove(9, 9);
        return x;
    }

    private static void full() {
        CheapProofs x = wide();
        for (int p = 0; p < 7; p++) {
            x.setPosition(p, p % 2, 0);
        }
        x.begin(0);
        int opened = x.open(100);
        int nodes = x.count(1);
        due("nodes by the leaves that are opened", nodes <= 200 ? 1 : 0, 1);
        due("opened", x.count(6), opened);
        due("not decided", x.count(4), 0);
        int leaf = 0;
        int depth = 0;
        while (x.way(depth) >= 0) {
            leaf = x.way(depth);
            depth++;
        }
        due("the next one has no room", x.position(x.node(leaf, 0), 4) > 200 - nodes ? 1 : 0, 1);
        due("open no more", x.open(1), -5);
        due("nodes", x.count(1), nodes);
    }

    /** Six positions with nine moves each; 18 leads to 19, and 19 to the first of them. */
    private static CheapProofs nines() {
        CheapProofs x = new CheapProofs();
        for (int from = 0; from < 6; from++) {
            for (int to = 0; to < 9; to++) {
                x.addMove(from, to);
            }
        }
        x.addMove(18, 19);
        x.addMove(19, 0);
        return x;
    }

    private static void fullByOneNode(int root, int opened, int nodes) {
        CheapProofs x = nines();
        x.begin(root);
        due("open till full, from " + root, x.open(100), opened);
        due("nodes", x.count(1), nodes);
        due("the last node", x.node(nodes - 1, 4), 0);
        due("no node behind", x.node(nodes, 0), -1);
        due("not decided", x.count(4), 0);
        due("cost", x.count(2), 1);
        int recorded = x.count(9);
        due("open no more", x.open(1), -5);
        due("open no more", x.open(100), -5);
        due("nothing is recorded", x.count(9), recorded);
        due("nodes", x.count(1), nodes);
        due("the way starts all the same", x.way(0), 0);
        int depth = 0;
        while (x.way(depth + 1) >= 0) {
            depth++;
        }
        due("its end is a leaf", x.node(x.way(depth), 4), 0);
        due("the leaf has nine moves", x.position(x.node(x.way(depth), 0), 4), 9);
        x.begin(root);
        int steps = 0;
        while (x.open(1) == 1) {
            steps++;
        }
        due("as many one after the other", steps, opened);
    }

    private static void fullByOne() {
        // 2 + 22 * 9 is 200: the last leaf fits exactly
        fullByOneNode(19, 23, 200);
        // 1 + 22 * 9 is 199: one node is left
        fullByOneNode(0, 22, 199);
        // 3 + 21 * 9 is 192: eight nodes are left, and nine would be wanted
        fullByOneNode(18, 23, 192);
    }

    private static void nodeWrong() {
        CheapProofs x = Checks.gameOf("0>1.2");
        int[] nodes = {-1, 0, 1, 199, 200, MOST, LEAST};
        for (int n : nodes) {
            due("node without a tree", x.node(n, 0), -1);
            due("node unknown before bad", x.node(n, 8), -1);
        }
        x.begin(0);
        x.open(1);
        due("last node", x.node(2, 0), 2);
        due("node unknown", x.node(3, 0), -1);
        due("node unknown", x.node(-1, 0), -1);
        due("node unknown before bad", x.node(3, -1), -1);
        int[] whats = {-1, 8, MOST, LEAST};
        for (int what : whats) {
            due("node bad", x.node(2, what), -2);
        }
    }

    private static void wayWrong() {
        CheapProofs x = Checks.gameOf("0>1,1>2,2>3");
        due("way bad before none", x.way(-1), -2);
        due("way bad", x.way(LEAST), -2);
        due("way without a tree", x.way(0), -5);
        x.begin(0);
        x.open(2);
        due("way", x.way(0), 0);
        due("way", x.way(1), 1);
        due("way", x.way(2), 2);
        int[] depths = {3, 199, 200, 201, MOST};
        for (int depth : depths) {
            due("way is not so long", x.way(depth), -5);
        }
        x.open(1);
        due("disproved", x.count(4), 2);
        due("way decided", x.way(0), -5);
        due("way bad", x.way(-1), -2);
    }

    private static void deepest() {
        CheapProofs x = new CheapProofs();
        for (int p = 0; p < 20; p++) {
            x.addMove(p, (p + 1) % 20);
        }
        x.begin(7);
        due("open", x.open(19), 19);
        due("way to the leaf", x.way(19), 19);
        due("way behind", x.way(20), -5);
        due("open", x.open(100), 1);
        due("depth", x.count(7), 20);
        node(x, 20, 7, 19, 9999, 0, 0, -5, 20, 1);
        due("disproved", x.count(4), 2);
        due("played", x.playOut(0, 0), 20);
        due("proof", x.proofSize(), 21);
    }
}
