/** Promises 18 and 19: the boundary cases of proofs that are played out and counted. */
public final class ProofEdgesTest extends Cases {
    public static void main(String[] args) throws ReflectiveOperationException {
        new ProofEdgesTest().runAll();
    }

    private static CheapProofs decided(String game, int root) {
        CheapProofs x = Checks.gameOf(game);
        x.begin(root);
        x.open(100);
        return x;
    }

    private void played(CheapProofs x, int answers, int moves, int position, int node) {
        due("playOut(" + answers + ", 0)", x.playOut(answers, 0), moves);
        due("playOut(" + answers + ", 1)", x.playOut(answers, 1), position);
        due("playOut(" + answers + ", 2)", x.playOut(answers, 2), node);
    }

    // ---- promise 18: playOut

    /** "answers: 0 or more", too small */
    void answersNegative() {
        refusedEach(new int[] {-1, LEAST}, Scenes::proved, (x, answers) -> x.playOut(answers, 0), -2);
        refusedEach(new int[] {-1, LEAST}, Scenes::disproved, (x, answers) -> x.playOut(answers, 2), -2);
    }

    /** what goes from 0 to 2: too small */
    void whatTooSmall() {
        refusedEach(new int[] {-1, LEAST}, Scenes::proved, (x, what) -> x.playOut(0, what), -2);
    }

    /** what goes from 0 to 2: too large */
    void whatTooLarge() {
        refusedEach(new int[] {3, MOST}, Scenes::proved, (x, what) -> x.playOut(0, what), -2);
    }

    /** "BAD_VALUE (answers, or what); NOT_POSSIBLE": the order of the checks, without a tree and before it is decided */
    void badAheadOfNotPossible() {
        refusedEach(new int[] {-1, LEAST}, Scenes::fresh, (x, answers) -> x.playOut(answers, 0), -2);
        refusedEach(new int[] {-1, 3, MOST, LEAST}, Scenes::fresh, (x, what) -> x.playOut(0, what), -2);
        refusedEach(new int[] {-1, LEAST}, Scenes::played, (x, answers) -> x.playOut(answers, 0), -2);
        refusedEach(new int[] {-1, 3, MOST, LEAST}, Scenes::played, (x, what) -> x.playOut(0, what), -2);
    }

    /** "NOT_POSSIBLE if there is no tree" */
    void playWithoutTree() {
        refusedEach(new int[] {0, 1, MOST}, Scenes::fresh, (x, answers) -> x.playOut(answers, 0), -4);
        refusedEach(new int[] {0, 1, 2}, Scenes::sixtyMoves, (x, what) -> x.playOut(0, what), -4);
    }

    /** "NOT_POSSIBLE if [..] it is not decided": a root alone, a tree that is opened, one that is full */
    void playNotDecided() {
        refusedEach(new int[] {0, 1, 2}, Scenes::sixtyMovesAndTree, (x, what) -> x.playOut(0, what), -4);
        refusedEach(new int[] {0, 1, 2}, Scenes::played, (x, what) -> x.playOut(0, what), -4);
        refusedEach(new int[] {0, 1, 2}, () -> Scenes.fullFrom(19), (x, what) -> x.playOut(0, what), -4);
    }

    /** "NOT_POSSIBLE if there is no tree": a decided one that an act leaves is none */
    void playWhatIsLeft() {
        CheapProofs x = Scenes.proved();
        due("possible", x.playOut(0, 1), 3);
        x.guess(19, 5, 5);
        due("not possible", x.playOut(0, 1), -4);
        due("no size", x.proofSize(), -4);
        x.undo();
        due("possible again", x.playOut(0, 1), 3);
    }

    /** "to a leaf, which is won": the root itself, after no move, whatever the answers are */
    void playAWonRoot() {
        CheapProofs x = decided("7w,7>8", 7);
        played(x, 0, 0, 7, 0);
        played(x, MOST, 0, 7, 0);
    }

    /** "to a leaf, which is lost or a loop": the root itself, a marked one and one without moves */
    void playALostRoot() {
        played(decided("7l,7>8", 7), 0, 0, 7, 0);
        played(decided("7l,7>8", 7), MOST, 0, 7, 0);
        played(decided("7l,7>8", 19), 1, 0, 19, 0);
    }

    /** "to a leaf, which is lost or a loop": a loop to the parent */
    void playToALoop() {
        played(decided("0>0", 0), 0, 1, 0, 1);
        played(decided("0d,0>0", 0), MOST, 1, 0, 1);
    }

    /** "to the first child with a cost to prove of 0": of some, behind others, and told by no answer */
    void firstProvedChild() {
        CheapProofs x = decided("0>1.2.3,1l,2w,3w", 0);
        for (int answers = 0; answers < 5; answers++) {
            played(x, answers, 1, 2, 2);
        }
    }

    /** "to the first child with a cost to disprove of 0": of some, behind others, and told by no answer */
    void firstDisprovedChild() {
        CheapProofs x = decided("0d,0>1.2.3,1w,2l,3l", 0);
        for (int answers = 0; answers < 5; answers++) {
            played(x, answers, 1, 2, 2);
        }
    }

    /** "each answer in turn is its remainder by the number of children": from none to more than there are */
    void remainderGoesRound() {
        CheapProofs proved = decided("0d,0>1.2.3,1w,2w,3w", 0);
        CheapProofs disproved = decided("0>1.2.3,1l,2l,3l", 0);
        int[] children = {1, 2, 3, 1, 2, 3, 1};
        for (int answers = 0; answers < children.length; answers++) {
            played(proved, answers, 1, children[answers], children[answers]);
            played(disproved, answers, 1, children[answers], children[answers]);
        }
    }

    /** "and the number becomes its quotient by that": by 3, then by 2 */
    void quotientIsTheNextAnswer() {
        CheapProofs x = decided("0d,0>1.2.3,1>4.5,2>4.5,3>4.5,1d,2d,3d,4w,5w", 0);
        int[] positions = {4, 4, 4, 5, 5, 5, 4, 4, 4, 5};
        for (int answers = 0; answers < positions.length; answers++) {
            due("position of " + answers, x.playOut(answers, 1), positions[answers]);
            int end = x.playOut(answers, 2);
            due("child of " + answers, x.node(x.node(end, 1), 0), 1 + answers % 3);
        }
    }

    /** "its remainder by the number of children": an only child takes no part of the number */
    void onlyChildTakesNoAnswer() {
        CheapProofs x = decided("0d,0>1,1d,1>2.3,2w,3w", 0);
        int[] positions = {2, 3, 2, 3};
        for (int answers = 0; answers < positions.length; answers++) {
            due("position of " + answers, x.playOut(answers, 1), positions[answers]);
        }
    }

    /** "a row of answers": the turn of the one who wins takes no part of the number */
    void winnersTurnTakesNoAnswer() {
        CheapProofs x = decided("0>1.2,2d,2>3.4,3w,4w", 0);
        int[] positions = {3, 4, 3, 4};
        for (int answers = 0; answers < positions.length; answers++) {
            due("position of " + answers, x.playOut(answers, 1), positions[answers]);
        }
    }

    /** "answers: 0 or more": the greatest number, and one that is used up early, which is 0 from there on */
    void greatestRowOfAnswers() {
        CheapProofs x = Scenes.layers(1, 2, 2, 2, 2, 2, 2);
        x.begin(0);
        x.open(100);
        due("decided", x.count(4), 2);
        due("all second ones", x.playOut(MOST, 1), 12);
        due("six moves", x.playOut(MOST, 0), 6);
        due("all first ones", x.playOut(0, 1), 11);
        due("as much as is used", x.playOut(63, 2), x.playOut(MOST, 2));
        due("what is left is not used", x.playOut(64, 2), x.playOut(0, 2));
        due("used up", x.playOut(1, 1), 11);
    }

    /** "0 for how many moves are played": the most there can be, a ring of all positions */
    void longestPlay() {
        CheapProofs x = Scenes.ring();
        x.begin(5);
        x.open(100);
        played(x, 0, 20, 5, 20);
        played(x, MOST, 20, 5, 20);
    }

    // ---- promise 19: proofSize

    /** "NOT_POSSIBLE if there is no tree" */
    void sizeWithoutTree() {
        refused("a new object", Scenes::fresh, CheapProofs::proofSize, -4);
        refused("a game", Scenes::sixtyMoves, CheapProofs::proofSize, -4);
    }

    /** "NOT_POSSIBLE if [..] it is not decided": a root alone, a tree that is opened, one that is full */
    void sizeNotDecided() {
        refused("a root", Scenes::sixtyMovesAndTree, CheapProofs::proofSize, -4);
        refused("a tree", Scenes::played, CheapProofs::proofSize, -4);
        refused("a full tree", () -> Scenes.fullFrom(19), CheapProofs::proofSize, -4);
    }

    /** "the root": alone, won or lost */
    void sizeOfARoot() {
        due("won", decided("0w,0>1", 0).proofSize(), 1);
        due("lost", decided("0l,0>1", 0).proofSize(), 1);
        due("without moves", decided("0w", 1).proofSize(), 1);
    }

    /** "at the turn of the one who has it the child that playOut() takes": one of many, for either of them */
    void sizeTakesOneOfTheWinner() {
        due("attacker", decided("0>1.2.3.4,4w,3w", 0).proofSize(), 2);
        due("defender", decided("0d,0>1.2.3.4,1w,2w", 0).proofSize(), 2);
    }

    /** "at that of the other one all children", for either of them */
    void sizeTakesAllOfTheOther() {
        due("defender", decided("0d,0>1.2.3.4,1w,2w,3w,4w", 0).proofSize(), 5);
        due("attacker", decided("0>1.2.3.4", 0).proofSize(), 5);
    }

    /** "at that of the other one all children": a position that is reached by two of them is two nodes */
    void sizeCountsNodesNotPositions() {
        CheapProofs x = decided("0d,0>1.2,1>3,2>3,3>4,4w", 0);
        due("nodes", x.count(1), 7);
        due("size", x.proofSize(), 7);
    }

    /** "how many nodes the proof [..] has": all of the 200 there can be */
    void greatestSize() {
        CheapProofs x = Scenes.layers(1, 1, 2, 2, 3, 3, 4);
        x.begin(0);
        x.open(100);
        due("disproof", x.proofSize(), 200);
        for (int p = 0; p < 12; p++) {
            x.setPosition(p, 1, 0);
        }
        for (int p = 12; p < 16; p++) {
            x.setPosition(p, 0, 1);
        }
        x.begin(0);
        x.open(100);
        due("proved", x.count(4), 1);
        due("proof", x.proofSize(), 200);
    }

    /** "Tells how many nodes": asked again, or of another tree, it counts anew */
    void sizeOfOneTreeAfterTheOther() {
        CheapProofs x = decided("0d,0>1.2.3,1w,2w,3w,4>1.2.3.5", 0);
        due("size", x.proofSize(), 4);
        due("size again", x.proofSize(), 4);
        x.begin(4);
        x.open(1);
        due("size of the next one", x.proofSize(), 2);
        x.begin(9);
        due("size of a root", x.proofSize(), 1);
    }
}
