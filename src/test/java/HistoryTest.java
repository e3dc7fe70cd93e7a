/** Promises 11 to 13: undo, the snapshot and what they bring back. */
public final class HistoryTest {
    private static final Checks CHECKS = new Checks("HistoryTest");

    private HistoryTest() {
    }

    private static void due(String call, long got, long want) {
        CHECKS.due(call, got, want);
    }

    public static void main(String[] args) {
        undoOfEachAct();
        undoOfTree();
        undoOfEachNode();
        keepAndRestore();
        restoreBringsTheTree();
        snapshotStays();
        CHECKS.end();
    }

    private static void undoOfEachAct() {
        CheapProofs x = new CheapProofs();
        due("undo", x.undo(), -5);
        x.setPosition(1, 1, 2);
        due("undo", x.undo(), 0);
        due("turn", x.position(1, 0), 0);
        due("mark", x.position(1, 1), 0);
        x.guess(1, 2, 3);
        due("undo", x.undo(), 0);
        due("guess", x.position(1, 2), 1);
        due("guess", x.position(1, 3), 1);
        x.addMove(1, 2);
        due("undo", x.undo(), 0);
        due("moves", x.count(0), 0);
        due("move", x.move(1, 0), -5);
        due("moves of it", x.position(1, 4), 0);
        Checks.typeAll(x, "1>2.3.4");
        x.readGame();
        due("undo", x.undo(), 0);
        due("moves", x.count(0), 0);
        x.readGame();
        x.removeMove(1, 3);
        due("undo", x.undo(), 1);
        due("move", x.move(1, 1), 3);
        due("move", x.move(1, 2), 4);
        x.begin(1);
        due("undo", x.undo(), 1);
        due("nodes", x.count(1), 0);
        x.keep();
        x.setPosition(7, 1, 1);
        x.restore();
        due("undo of restore", x.undo(), 2);
        due("mark", x.position(7, 1), 1);
        due("text stays", x.count(10), 7);
    }

    private static void undoOfTree() {
        CheapProofs x = Checks.gameOf("0>1.2,1>3,2>3,3w");
        x.begin(0);
        x.open(1);
        x.open(1);
        due("proved", x.count(4), 1);
        due("undo", x.undo(), 3);
        due("nodes", x.count(1), 3);
        due("not decided", x.count(4), 0);
        due("leaf again", x.node(1, 4), 0);
        due("no first child", x.node(1, 5), -5);
        due("cost", x.node(1, 2), 1);
        due("open again", x.open(1), 1);
        x.addMove(3, 3);
        due("no tree", x.count(1), 0);
        due("undo", x.undo(), 3);
        due("the tree is back", x.count(1), 4);
        due("proved", x.count(4), 1);
        due("size", x.proofSize(), 3);
    }

    /** Two trees whose nodes of one number differ in all that is told: undo brings the former one back whole. */
    private static void undoOfEachNode() {
        CheapProofs x = Checks.gameOf("0>1,1>0.2,2>3,3>4,9d,9>8.7.6,8>9,6>5");
        x.guess(1, 3, 4);
        x.guess(7, 2, 2);
        x.begin(0);
        x.open(3);
        int[] former = told(x);
        x.begin(9);
        x.open(2);
        int[] latter = told(x);
        due("undo", x.undo(), 3);
        due("undo", x.undo(), 2);
        same("undo", former, told(x));
        x.keep();
        x.begin(9);
        x.open(2);
        same("the other one", latter, told(x));
        x.restore();
        same("restore", former, told(x));
        x.undo();
        same("undo of restore", latter, told(x));
        int unlike = 0;
        for (int what = 0; what < 8; what++) {
            boolean differs = false;
            for (int node = 0; node < 5; node++) {
                differs |= former[node * 8 + what] != latter[node * 8 + what];
            }
            unlike += differs ? 1 : 0;
        }
        due("numbers in which the trees differ", unlike, 8);
    }

    private static int[] told(CheapProofs x) {
        int[] told = new int[10 * 8];
        for (int i = 0; i < told.length; i++) {
            told[i] = x.node(i / 8, i % 8);
        }
        return told;
    }

    private static void same(String call, int[] wants, int[] told) {
        for (int i = 0; i < wants.length; i++) {
            due(call + ": node(" + i / 8 + ", " + i % 8 + ")", told[i], wants[i]);
        }
    }

    private static void keepAndRestore() {
        CheapProofs x = new CheapProofs();
        due("restore", x.restore(), -5);
        due("nothing is recorded", x.count(9), 0);
        x.addMove(0, 1);
        due("keep", x.keep(), 1);
        due("keep is no act", x.count(9), 1);
        due("restore what is so", x.restore(), 1);
        due("it is recorded", x.count(9), 2);
        x.addMove(0, 2);
        x.guess(0, 5, 6);
        x.setPosition(3, 1, 1);
        Checks.typeAll(x, "abc");
        due("restore", x.restore(), 1);
        due("moves", x.position(0, 4), 1);
        due("guess", x.position(0, 2), 1);
        due("guess", x.position(0, 3), 1);
        due("turn", x.position(3, 0), 0);
        due("mark", x.position(3, 1), 0);
        due("text stays", x.count(10), 3);
        due("history stays", x.count(9), 4);
        due("undo", x.undo(), 3);
        due("mark", x.position(3, 1), 1);
        due("guess", x.position(0, 2), 5);
        due("keep anew", x.keep(), 2);
        x.removeMove(0, 1);
        due("restore the new one", x.restore(), 2);
        due("move", x.move(0, 0), 1);
    }

    private static void restoreBringsTheTree() {
        CheapProofs x = Checks.gameOf("0>1.2,1>3,2>3,3w");
        x.begin(0);
        x.open(1);
        x.keep();
        x.open(1);
        due("restore", x.restore(), 4);
        due("nodes", x.count(1), 3);
        due("way", x.way(1), 1);
        x.addMove(5, 5);
        due("no tree", x.count(1), 0);
        due("restore", x.restore(), 4);
        due("nodes", x.count(1), 3);
        due("open", x.open(9), 1);
        due("size", x.proofSize(), 3);
        x.keep();
        x.begin(1);
        x.restore();
        due("root", x.node(0, 0), 0);
        due("proved", x.count(4), 1);
        // a snapshot without a tree brings none
        CheapProofs y = Checks.gameOf("0>1");
        y.keep();
        y.begin(0);
        y.restore();
        due("no tree", y.count(1), 0);
        due("undo", y.undo(), 2);
        due("a tree", y.count(1), 1);
    }

    private static void snapshotStays() {
        CheapProofs x = new CheapProofs();
        x.addMove(0, 1);
        x.keep();
        for (int i = 0; i < 6; i++) {
            x.undo();
        }
        due("moves", x.count(0), 0);
        due("restore", x.restore(), 1);
        x.addMove(0, 2);
        due("restore again", x.restore(), 1);
        due("rank 1", x.move(0, 1), -5);
    }
}
