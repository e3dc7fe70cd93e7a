/** Promises 7, 8, 16 and 17: the boundary cases of the tree. */
public final class TreeEdgesTest extends Cases {
    private static final int[] UNKNOWN = {-1, 20, MOST, LEAST};

    public static void main(String[] args) throws ReflectiveOperationException {
        new TreeEdgesTest().runAll();
    }

    private void node(CheapProofs x, int node, int... wants) {
        for (int what = 0; what < wants.length; what++) {
            due("node(" + node + ", " + what + ")", x.node(node, what), wants[what]);
        }
    }

    private static int lengthOfWay(CheapProofs x) {
        int depth = 0;
        while (depth < 200 && x.way(depth) >= 0) {
            depth++;
        }
        return depth;
    }

    /** A tree with its root at the position, which is opened so often. */
    private static CheapProofs opened(String game, int root, int times) {
        CheapProofs x = Checks.gameOf(game);
        x.begin(root);
        for (int i = 0; i < times; i++) {
            x.open(1);
        }
        return x;
    }

    // ---- promise 7: begin

    /** "position: 0 to 19": the lowest and the highest one */
    void beginAtLowestAndHighest() {
        recorded("lowest", () -> Checks.gameOf("0>1,19>0"), x -> x.begin(0), 1);
        recorded("highest", () -> Checks.gameOf("0>1,19>0"), x -> x.begin(19), 1);
        CheapProofs x = Scenes.ring();
        x.begin(19);
        node(x, 0, 19, -5, 1, 1, 0, -5, 0, 0);
    }

    /** "UNKNOWN = -1: There is no such position": the tree stays, and none comes where there was none */
    void beginAtUnknown() {
        refusedEach(UNKNOWN, Scenes::played, CheapProofs::begin, -1);
        refusedEach(UNKNOWN, Scenes::fresh, CheapProofs::begin, -1);
    }

    /** "a won one has the costs 0 and 9999" */
    void beginAtAWonEnd() {
        CheapProofs x = Checks.gameOf("5w,5>6,6>5");
        due("begin", x.begin(5), 0);
        node(x, 0, 5, -5, 0, 9999, 0, -5, 0, 0);
        due("proved", x.count(4), 1);
    }

    /** "a lost one 9999 and 0": one that is marked, and one without moves */
    void beginAtALostEnd() {
        CheapProofs x = Checks.gameOf("5l,5>6,6>5");
        due("marked", x.begin(5), 9999);
        node(x, 0, 5, -5, 9999, 0, 0, -5, 0, 0);
        due("without moves", x.begin(7), 9999);
        node(x, 0, 7, -5, 9999, 0, 0, -5, 0, 0);
        due("disproved", x.count(4), 2);
    }

    /** "Otherwise its costs are the guesses": the most and the least; a root is no loop, with a move to itself too */
    void beginAtAnOpenOne() {
        CheapProofs x = Checks.gameOf("5>5");
        x.guess(5, 9, 1);
        due("begin", x.begin(5), 9);
        node(x, 0, 5, -5, 9, 1, 0, -5, 0, 0);
        x.guess(5, 1, 9);
        due("begin", x.begin(5), 1);
        node(x, 0, 5, -5, 1, 9, 0, -5, 0, 0);
    }

    /** "Begins a tree with its root", in the place of the one that was, of 200 nodes too */
    void beginInPlaceOfAFullTree() {
        CheapProofs x = Scenes.fullFrom(19);
        due("nodes", x.count(1), 200);
        due("begin", x.begin(19), 1);
        due("nodes", x.count(1), 1);
        due("no node behind", x.node(1, 0), -1);
        due("room again", x.open(100), 23);
        due("nodes", x.count(1), 200);
    }

    /** begin() knows no NONE: the same tree again is an act */
    void beginTheSame() {
        recorded("begin", () -> opened("0>1", 0, 0), x -> x.begin(0), 1);
    }

    // ---- promise 8: open

    /** "times: 1 to 100", too small */
    void openTooFew() {
        refusedEach(new int[] {0, -1, LEAST}, Scenes::played, CheapProofs::open, -2);
    }

    /** "times: 1 to 100", too large */
    void openTooMany() {
        refusedEach(new int[] {101, MOST}, Scenes::played, CheapProofs::open, -2);
    }

    /** "times: 1 to 100": the least */
    void openOnce() {
        recorded("open", () -> opened("0>1,1>2,2>3", 0, 0), x -> x.open(1), 1);
    }

    /** "times: 1 to 100": the most, of a tree in which 111 leaves are to be opened */
    void openAHundredTimes() {
        CheapProofs x = Scenes.layers(1, 2, 2, 2, 1, 1, 1, 1, 1, 1, 1, 1, 1, 1, 1, 1, 1);
        x.begin(0);
        due("open", x.open(100), 100);
        due("opened", x.count(6), 100);
        due("not decided", x.count(4), 0);
        due("open the rest", x.open(100), 11);
        due("disproved", x.count(4), 2);
        due("opened", x.count(6), 111);
    }

    /** "BAD_VALUE; NOT_POSSIBLE": the order of the checks */
    void openBadAheadOfNotPossible() {
        refusedEach(new int[] {0, 101, MOST, LEAST}, Scenes::fresh, CheapProofs::open, -2);
    }

    /** "BAD_VALUE; [..] NONE": the order of the checks */
    void openBadAheadOfNone() {
        refusedEach(new int[] {0, 101, MOST, LEAST}, Scenes::proved, CheapProofs::open, -2);
        refusedEach(new int[] {0, 101, MOST, LEAST}, () -> Scenes.fullFrom(0), CheapProofs::open, -2);
    }

    /** "NOT_POSSIBLE if there is no tree" */
    void openWithoutTree() {
        refusedEach(new int[] {1, 100}, Scenes::fresh, CheapProofs::open, -4);
        refusedEach(new int[] {1, 100}, Scenes::sixtyMoves, CheapProofs::open, -4);
    }

    /** "if the root has a cost of 0, nothing is opened", "NONE if none is opened": it is proved */
    void openProved() {
        refusedEach(new int[] {1, 100}, Scenes::proved, CheapProofs::open, -5);
        refusedEach(new int[] {1, 100}, () -> opened("0w,0>0", 0, 0), CheapProofs::open, -5);
    }

    /** "if the root has a cost of 0, nothing is opened", "NONE if none is opened": it is disproved */
    void openDisproved() {
        refusedEach(new int[] {1, 100}, Scenes::disproved, CheapProofs::open, -5);
        refusedEach(new int[] {1, 100}, () -> opened("0>0", 0, 1), CheapProofs::open, -5);
    }

    /** "until it is decided": fewer than times, and one state is recorded for all */
    void openUntilDecided() {
        recorded("open", () -> opened("0>1,1>2,2>3,3w", 0, 0), x -> x.open(100), 3);
        recorded("as often as it needs", () -> opened("0>1,1>2,2>3,3w", 0, 0), x -> x.open(3), 3);
        recorded("once less", () -> opened("0>1,1>2,2>3,3w", 0, 0), x -> x.open(2), 2);
    }

    /** "The tree has at most 200 nodes": the last leaf has as many moves as nodes are left */
    void exactlyTwoHundredNodes() {
        CheapProofs x = Scenes.fullFrom(19);
        due("nodes", x.count(1), 200);
        due("opened", x.count(6), 23);
        due("the last node is a leaf", x.node(199, 4), 0);
        due("no node behind", x.node(200, 0), -1);
        due("not decided", x.count(4), 0);
    }

    /** "a leaf with more moves than nodes are left is not opened", "NONE if none is opened": none is left */
    void openWithoutRoom() {
        refusedEach(new int[] {1, 100}, () -> Scenes.fullFrom(19), CheapProofs::open, -5);
    }

    /** "a leaf with more moves than nodes are left is not opened": one node is left for nine moves */
    void openWithOneNodeLeft() {
        due("nodes", Scenes.fullFrom(0).count(1), 199);
        refusedEach(new int[] {1, 100}, () -> Scenes.fullFrom(0), CheapProofs::open, -5);
    }

    /** "a leaf with more moves than nodes are left is not opened": eight are left, one too few */
    void openWithOneNodeTooFew() {
        due("nodes", Scenes.fullFrom(18).count(1), 192);
        refusedEach(new int[] {1, 100}, () -> Scenes.fullFrom(18), CheapProofs::open, -5);
    }

    /** "or the leaf that comes next is not opened": no other leaf is opened in its place */
    void openNoOtherLeaf() {
        CheapProofs x = Scenes.fullFrom(17);
        due("nodes", x.count(1), 192);
        due("the other leaf", x.node(2, 0), 16);
        due("is not opened", x.node(2, 4), 0);
        due("though it is open", x.node(2, 2), 9);
        due("and has one move", x.position(16, 4), 1);
        refusedEach(new int[] {1, 100}, () -> Scenes.fullFrom(17), CheapProofs::open, -5);
    }

    /** "or the leaf that comes next is not opened": what was opened ahead of it counts, and is one state */
    void openUntilFull() {
        CheapProofs x = Scenes.fullFrom(19);
        x.undo();
        due("nodes", x.count(1), 1);
        due("open", x.open(22), 22);
        due("nodes", x.count(1), 191);
        due("open the last", x.open(100), 1);
        due("nodes", x.count(1), 200);
        due("undo", x.undo(), 3);
        due("nodes", x.count(1), 191);
    }

    /** "at most 200 nodes": the leaf that takes the last ones may decide the tree */
    void decidedByTheLastNodes() {
        CheapProofs x = Scenes.layers(1, 1, 2, 2, 3, 3, 4);
        x.begin(0);
        due("open", x.open(100), 56);
        due("nodes", x.count(1), 200);
        due("disproved", x.count(4), 2);
        due("open no more", x.open(1), -5);
        due("size", x.proofSize(), 200);
    }

    /** "at most 200 nodes": a tree that one of 201 would decide is not decided */
    void notDecidedForOneNode() {
        CheapProofs x = Scenes.layers(1, 1, 1, 2, 2, 3, 3, 4);
        x.begin(0);
        due("open", x.open(100), 56);
        due("nodes", x.count(1), 197);
        due("not decided", x.count(4), 0);
        due("open no more", x.open(1), -5);
        due("the way is told", x.way(0), 0);
    }

    /** "This leaf gets a child for each move of its position, in their order": one, and as many as there can be */
    void fewestAndMostChildren() {
        CheapProofs x = Scenes.sixtyMoves();
        x.begin(2);
        due("open", x.open(1), 1);
        node(x, 0, 2, -5, 1, 2, 20, 1, 0, 0);
        for (int p = 0; p < 20; p++) {
            due("child " + p, x.node(p + 1, 0), p);
            due("loop " + p, x.node(p + 1, 7), p == 2 ? 1 : 0);
        }
        due("nodes", x.count(1), 21);
        node(opened("0>1,1>2", 0, 1), 0, 0, -5, 1, 1, 1, 1, 0, 0);
    }

    /** "to the first child with the least cost to prove it": the first of equal ones, behind a dearer one */
    void firstOfEqualOnesToProve() {
        CheapProofs x = Checks.gameOf("0>1.2.3,1>9,2>9,3>9,9>0");
        x.guess(1, 3, 1);
        x.guess(2, 2, 9);
        x.guess(3, 2, 1);
        x.begin(0);
        x.open(1);
        due("way", x.way(1), 2);
    }

    /** "otherwise to the first child with the least cost to disprove it": the first of equal ones */
    void firstOfEqualOnesToDisprove() {
        CheapProofs x = Checks.gameOf("0d,0>1.2.3,1>9,2>9,3>9,9>0");
        x.guess(1, 1, 3);
        x.guess(2, 9, 2);
        x.guess(3, 1, 2);
        x.begin(0);
        x.open(1);
        due("way", x.way(1), 2);
    }

    /** "A cost of 9999 or more counts as 9999": the sum of some that are never disproved, or never proved */
    void sumStopsAtNever() {
        node(opened("0>1.2.3,1w,2w,3>0", 0, 1), 0, 0, -5, 0, 9999, 3, 1, 0, 0);
        node(opened("0d,0>1.2.3,1l,2l,3>0", 0, 1), 0, 0, -5, 9999, 0, 3, 1, 0, 0);
        node(opened("0>1.2,1w,2w", 0, 1), 0, 0, -5, 0, 9999, 2, 1, 0, 0);
    }

    /** "A cost of 9999 or more counts as 9999": the greatest sum of the guesses of children is far less */
    void greatestSumOfGuesses() {
        CheapProofs x = new CheapProofs();
        for (int p = 1; p < 20; p++) {
            x.addMove(0, p);
            x.addMove(p, p);
            x.guess(p, 9, 9);
        }
        x.begin(0);
        x.open(1);
        node(x, 0, 0, -5, 9, 171, 19, 1, 0, 0);
        x.setPosition(0, 1, 0);
        x.begin(0);
        x.open(1);
        node(x, 0, 0, -5, 171, 9, 19, 1, 0, 0);
    }

    /** "the cost to prove is the least of those of the children": never, if all are lost */
    void leastOfNeverIsNever() {
        node(opened("0>1.2,1l,2l", 0, 1), 0, 0, -5, 9999, 0, 2, 1, 0, 0);
        node(opened("0d,0>1.2,1w,2w", 0, 1), 0, 0, -5, 0, 9999, 2, 1, 0, 0);
    }

    // ---- loops, and promise 16: node

    /** "if its position is that of any node on the way from the root to its parent": the parent itself */
    void loopToTheParent() {
        node(opened("0>0", 0, 1), 1, 0, 0, 9999, 0, 0, -5, 1, 1);
    }

    /** "any node on the way from the root": the root, as far away as can be */
    void loopToTheRoot() {
        CheapProofs x = Scenes.ring();
        x.begin(7);
        due("open", x.open(100), 20);
        node(x, 20, 7, 19, 9999, 0, 0, -5, 20, 1);
        due("loops", x.count(5), 1);
    }

    /** "any node on the way": one between */
    void loopToOneBetween() {
        CheapProofs x = opened("0>1,1>2,2>3,3>1", 0, 4);
        node(x, 4, 1, 3, 9999, 0, 0, -5, 4, 1);
    }

    /** "on the way from the root to its parent": the same position at a brother is no loop */
    void noLoopBesideTheWay() {
        CheapProofs x = opened("0d,0>1.2,1>2,2>1", 0, 2);
        node(x, 3, 2, 1, 1, 1, 0, -5, 2, 0);
        due("loops", x.count(5), 0);
    }

    /** "If its position is an end [..]. Otherwise [..] a loop": a lost end has the costs of a loop, and is none */
    void anEndIsNoLoop() {
        CheapProofs x = opened("0>1.2,1l,1>0", 0, 1);
        node(x, 1, 1, 0, 9999, 0, 0, -5, 1, 0);
        node(x, 2, 2, 0, 9999, 0, 0, -5, 1, 0);
        due("loops", x.count(5), 0);
    }

    /** "UNKNOWN = -1: There is no such [..] node": no tree has a node */
    void nodeWithoutTree() {
        refusedEach(new int[] {0, 1, 199, 200, -1, MOST, LEAST}, Scenes::fresh, (x, n) -> x.node(n, 0), -1);
    }

    /** "UNKNOWN = -1: There is no such [..] node": a negative one */
    void nodeNegative() {
        refusedEach(new int[] {-1, LEAST}, Scenes::played, (x, n) -> x.node(n, 0), -1);
    }

    /** "UNKNOWN = -1: There is no such [..] node": the one behind the last, and the greatest */
    void nodeBehindTheLast() {
        int nodes = Scenes.played().count(1);
        due("the last one", Scenes.played().node(nodes - 1, 0), 0);
        refusedEach(new int[] {nodes, nodes + 1, 199, 200, MOST}, Scenes::played, (x, n) -> x.node(n, 0), -1);
        refusedEach(new int[] {200, 201, MOST}, () -> Scenes.fullFrom(19), (x, n) -> x.node(n, 0), -1);
    }

    /** what goes from 0 to 7: too small and too large */
    void nodeWhatOutOfRange() {
        refusedEach(new int[] {-1, 8, MOST, LEAST}, Scenes::played, (x, what) -> x.node(0, what), -2);
    }

    /** "UNKNOWN; BAD_VALUE": the order of the checks */
    void nodeUnknownAheadOfBad() {
        refusedEach(new int[] {-1, 8, MOST, LEAST}, Scenes::fresh, (x, what) -> x.node(0, what), -1);
        refusedEach(new int[] {-1, 8, MOST, LEAST}, Scenes::played, (x, what) -> x.node(-1, what), -1);
        refusedEach(new int[] {-1, 8, MOST, LEAST}, Scenes::played, (x, what) -> x.node(200, what), -1);
    }

    /** "1 for its parent (NONE of the root)" */
    void parentOfTheRoot() {
        CheapProofs x = Scenes.played();
        due("root", x.node(0, 1), -5);
        due("its first child", x.node(1, 1), 0);
    }

    /** "5 for its first child (NONE without one)": an open leaf, an end, a loop */
    void firstChildOfLeaves() {
        CheapProofs x = opened("0>1.2.0,1>3", 0, 1);
        for (int node = 1; node <= 3; node++) {
            due("first child of " + node, x.node(node, 5), -5);
            due("children of " + node, x.node(node, 4), 0);
        }
        due("first child of the root", x.node(0, 5), 1);
    }

    /** "6 for its depth": the least and the greatest */
    void leastAndGreatestDepth() {
        CheapProofs x = Scenes.ring();
        x.begin(0);
        x.open(100);
        for (int node = 0; node <= 20; node++) {
            due("depth of " + node, x.node(node, 6), node);
        }
    }

    /** "numbered from 0 (its root) in the order in which they are made": a later tree does not show the former one */
    void nodesOfTheFormerTreeAreGone() {
        CheapProofs x = opened("0>0.1,1>2,2>3", 0, 1);
        node(x, 1, 0, 0, 9999, 0, 0, -5, 1, 1);
        x.begin(1);
        due("nodes", x.count(1), 1);
        x.open(1);
        node(x, 0, 1, -5, 1, 1, 1, 1, 0, 0);
        node(x, 1, 2, 0, 1, 1, 0, -5, 1, 0);
    }

    // ---- promise 17: way

    /** "BAD_VALUE if depth is negative" */
    void wayNegative() {
        refusedEach(new int[] {-1, LEAST}, Scenes::played, CheapProofs::way, -2);
    }

    /** "BAD_VALUE [..]; NONE": the order of the checks */
    void wayBadAheadOfNone() {
        refusedEach(new int[] {-1, LEAST}, Scenes::fresh, CheapProofs::way, -2);
        refusedEach(new int[] {-1, LEAST}, Scenes::proved, CheapProofs::way, -2);
    }

    /** "NONE if there is no tree" */
    void wayWithoutTree() {
        refusedEach(new int[] {0, 1, 199, 200, MOST}, Scenes::fresh, CheapProofs::way, -5);
    }

    /** "NONE if [..] it is decided": proved or disproved, the root too */
    void wayDecided() {
        refusedEach(new int[] {0, 1, MOST}, Scenes::proved, CheapProofs::way, -5);
        refusedEach(new int[] {0, 1, MOST}, Scenes::disproved, CheapProofs::way, -5);
    }

    /** "NONE if [..] the way is not so long": the depth behind the leaf, and the greatest ones */
    void wayBehindTheLeaf() {
        due("the leaf", opened("0>1,1>2,2>3", 0, 2).way(2), 2);
        refusedEach(new int[] {3, 4, 20, 199, 200, 201, MOST}, () -> opened("0>1,1>2,2>3", 0, 2), CheapProofs::way, -5);
    }

    /** "a depth, from 0": of a root that is not opened */
    void wayOfTheRootAlone() {
        CheapProofs x = opened("0>1,1>2", 0, 0);
        due("root", x.way(0), 0);
        due("no more", x.way(1), -5);
    }

    /** "the node of the way at this depth": the longest way there is */
    void longestWay() {
        CheapProofs x = Scenes.ring();
        x.begin(3);
        x.open(19);
        for (int depth = 0; depth <= 19; depth++) {
            due("way", x.way(depth), depth);
        }
        due("no more", x.way(20), -5);
    }

    /** "up to a leaf (which is always open)": no end and no loop, though the tree has both */
    void wayEndsAtAnOpenLeaf() {
        CheapProofs x = Checks.gameOf("0>1.2.5,1d,1>0.2.3,2d,2>1.3.4,3>3.4.0,4d,4>2.6.0,6w,5>5");
        x.begin(0);
        int leaves = 0;
        while (x.count(4) == 0 && leaves < 100) {
            int leaf = x.way(lengthOfWay(x) - 1);
            due("no end", x.position(x.node(leaf, 0), 5), 0);
            due("no loop", x.node(leaf, 7), 0);
            due("no child", x.node(leaf, 4), 0);
            due("open", x.open(1), 1);
            due("it is the one that was opened", x.node(leaf, 4), x.position(x.node(leaf, 0), 4));
            leaves++;
        }
        due("disproved", x.count(4), 2);
        due("leaves", leaves, 5);
    }

    /** "(or would be, if there was room)": of a tree of 200 nodes, and of one with a node left */
    void wayOfAFullTree() {
        int[] roots = {19, 0, 18, 17};
        for (int root : roots) {
            CheapProofs x = Scenes.fullFrom(root);
            int length = lengthOfWay(x);
            int leaf = x.way(length - 1);
            due("the way starts at the root", x.way(0), 0);
            due("it ends at a leaf", x.node(leaf, 4), 0);
            due("which has nine moves", x.position(x.node(leaf, 0), 4), 9);
            due("and is as deep", x.node(leaf, 6), length - 1);
        }
    }
}
