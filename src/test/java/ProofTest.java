/** Promises 18 and 19: proofs that are played out, and their size. */
public final class ProofTest {
    private static final int MOST = Integer.MAX_VALUE;
    private static final Checks CHECKS = new Checks("ProofTest");

    private ProofTest() {
    }

    private static void due(String call, long got, long want) {
        CHECKS.due(call, got, want);
    }

    public static void main(String[] args) {
        proved();
        disproved();
        rowOfAnswers();
        CHECKS.end();
    }

    private static void played(CheapProofs x, int answers, int moves, int position, int node) {
        due("playOut(" + answers + ", 0)", x.playOut(answers, 0), moves);
        due("playOut(" + answers + ", 1)", x.playOut(answers, 1), position);
        due("playOut(" + answers + ", 2)", x.playOut(answers, 2), node);
    }

    private static void proved() {
        // 1 is opened first and lost; 2 leaves the defender two answers, both won
        CheapProofs x = Checks.gameOf("0>1.2,1>5,2d,2>3.4,3>5.6,4>6,6w");
        x.guess(2, 2, 1);
        x.begin(0);
        due("open", x.open(100), 5);
        due("proved", x.count(4), 1);
        played(x, 0, 3, 6, 7);
        played(x, 1, 3, 6, 8);
        played(x, 2, 3, 6, 7);
        played(x, MOST, 3, 6, 8);
        due("size", x.proofSize(), 6);
        due("nodes", x.count(1), 9);
    }

    private static void disproved() {
        CheapProofs x = Checks.gameOf("0d,0>1.2,1>6,2>3.4.0,3d,3>6.5,4l,6w");
        x.begin(0);
        due("open", x.open(100), 4);
        due("disproved", x.count(4), 2);
        due("nodes", x.count(1), 9);
        played(x, 0, 3, 5, 8);
        played(x, 1, 2, 4, 5);
        played(x, 2, 2, 0, 6);
        played(x, 3, 3, 5, 8);
        played(x, MOST, 2, 4, 5);
        due("size", x.proofSize(), 6);
    }

    private static void rowOfAnswers() {
        // the defender answers with 3, then with 2 ways: remainder by 3, then the quotient by 2
        CheapProofs x = Checks.gameOf("0d,0>1.2.3,1>4,2>4,3>4,4d,4>5.6,5w,6w");
        x.begin(0);
        due("open", x.open(100), 7);
        int[] first = {0, 1, 2};
        for (int answers = 0; answers < 20; answers++) {
            int child = 1 + first[answers % 3];
            int position = 5 + answers / 3 % 2;
            due("moves", x.playOut(answers, 0), 3);
            due("position", x.playOut(answers, 1), position);
            int end = x.playOut(answers, 2);
            due("its first node", x.node(x.node(x.node(end, 1), 1), 0), child);
            due("its position", x.node(end, 0), position);
        }
        due("size", x.proofSize(), 13);
    }
}
