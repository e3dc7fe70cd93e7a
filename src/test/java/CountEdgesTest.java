/** Promise 20: the boundary cases of what is told of the whole. */
public final class CountEdgesTest extends Cases {
    public static void main(String[] args) throws ReflectiveOperationException {
        new CountEdgesTest().runAll();
    }

    /** what goes from 0 to 10: too small */
    void whatTooSmall() {
        refusedEach(new int[] {-1, LEAST}, Scenes::played, CheapProofs::count, -2);
    }

    /** what goes from 0 to 10: too large */
    void whatTooLarge() {
        refusedEach(new int[] {11, MOST}, Scenes::played, CheapProofs::count, -2);
    }

    /** "NONE [..] is returned only if no error applies": without a tree BAD_VALUE comes all the same */
    void badWithoutTree() {
        refusedEach(new int[] {-1, 11, MOST, LEAST}, Scenes::fresh, CheapProofs::count, -2);
    }

    /** "2 to 7: NONE without a tree": not before there was one, nor when an act leaves none */
    void noneWithoutTree() {
        refusedEach(new int[] {2, 3, 4, 5, 6, 7}, Scenes::fresh, CheapProofs::count, -5);
        refusedEach(new int[] {2, 3, 4, 5, 6, 7}, Scenes::sixtyMoves, CheapProofs::count, -5);
        CheapProofs x = Scenes.proved();
        x.setPosition(19, 1, 0);
        for (int what = 2; what <= 7; what++) {
            due("count(" + what + ")", x.count(what), -5);
        }
    }

    /** "0 for moves": none and 60 */
    void fewestAndMostMoves() {
        due("none", new CheapProofs().count(0), 0);
        due("most", Scenes.sixtyMoves().count(0), 60);
    }

    /** "1 for nodes (0 without a tree)": one and 200 */
    void fewestAndMostNodes() {
        due("without a tree", Scenes.sixtyMoves().count(1), 0);
        due("a root", Scenes.sixtyMovesAndTree().count(1), 1);
        due("most", Scenes.fullFrom(19).count(1), 200);
    }

    /** "2 for the cost to prove the root, 3 for the cost to disprove it": 0 and 9999 */
    void leastAndMostCosts() {
        due("proved", Scenes.proved().count(2), 0);
        due("proved, to disprove", Scenes.proved().count(3), 9999);
        due("disproved", Scenes.disproved().count(2), 9999);
        due("disproved, to disprove", Scenes.disproved().count(3), 0);
        due("not decided", Scenes.sixtyMovesAndTree().count(2), 1);
        due("not decided, to disprove", Scenes.sixtyMovesAndTree().count(3), 1);
    }

    /** "4 for whether it is decided (0 no, 1 proved, 2 disproved)": not when it is full, either */
    void decidedOrNot() {
        due("no", Scenes.sixtyMovesAndTree().count(4), 0);
        due("full", Scenes.fullFrom(19).count(4), 0);
        due("proved", Scenes.proved().count(4), 1);
        due("disproved", Scenes.disproved().count(4), 2);
    }

    /** "5 for loops in the tree": none of a root, one, and each of two that have the same position */
    void noLoopAndMore() {
        CheapProofs x = Checks.gameOf("0>0.1,1>0.1");
        x.begin(0);
        due("a root", x.count(5), 0);
        x.open(1);
        due("one", x.count(5), 1);
        x.open(1);
        due("three", x.count(5), 3);
    }

    /** "5 for loops in the tree", "6 for leaves that were opened in it": a former tree's next node is not in it */
    void nodesOfAFormerTreeDoNotCount() {
        CheapProofs x = Checks.gameOf("0>0.1,1>2,3>1,2>2");
        x.begin(0);
        x.open(1);
        due("a loop", x.count(5), 1);
        x.begin(1);
        due("no loop", x.count(5), 0);
        x.begin(3);
        x.open(2);
        x.begin(1);
        due("none opened", x.count(6), 0);
        due("depth", x.count(7), 0);
    }

    /** "6 for leaves that were opened in it": none of a root, and as many as open() told, one after the other or not */
    void noLeafOpenedAndMore() {
        CheapProofs x = Scenes.ring();
        x.begin(0);
        due("a root", x.count(6), 0);
        due("open", x.open(7), 7);
        due("seven", x.count(6), 7);
        due("open", x.open(1), 1);
        due("eight", x.count(6), 8);
        due("open", x.open(100), 12);
        due("twenty", x.count(6), 20);
    }

    /** "7 for the greatest depth of a node": that of the root alone, the greatest there is, and not of the last node */
    void leastAndGreatestDepth() {
        CheapProofs x = Scenes.ring();
        x.begin(0);
        due("a root", x.count(7), 0);
        x.open(100);
        due("a ring", x.count(7), 20);
        CheapProofs y = Checks.gameOf("0>1.2,1>3,3>4,2>5.6");
        y.guess(2, 2, 1);
        y.begin(0);
        y.open(100);
        due("depth", y.count(7), 3);
        due("the last node is less deep", y.node(y.count(1) - 1, 6), 2);
    }

    /** "8 for positions from which the attacker wins": none and all 20, ends and others */
    void noneAndAllPositionsWon() {
        CheapProofs x = Scenes.ring();
        due("none of a ring", x.count(8), 0);
        x.setPosition(13, 0, 1);
        due("all of a ring by one", x.count(8), 20);
        x.setPosition(13, 0, 2);
        due("none by a lost one", x.count(8), 0);
        CheapProofs y = new CheapProofs();
        for (int p = 0; p < 20; p++) {
            y.setPosition(p, 1, 1);
            due("ends", y.count(8), p + 1);
        }
    }

    /** "9 for the states in the history": none and 4 */
    void fewestAndMostStates() {
        due("none", new CheapProofs().count(9), 0);
        due("most", Scenes.fourStates().count(9), 4);
    }

    /** "10 for the length of the text": none and 60 */
    void shortestAndLongestText() {
        due("none", new CheapProofs().count(10), 0);
        due("most", Scenes.sixtySigns().count(10), 60);
    }

    /** "An object is used for at most 512 calls": the last of them answers as any other one */
    void lastOfAllCalls() {
        CheapProofs x = Scenes.ring();
        for (int call = 21; call < 512; call += 2) {
            due("begin", x.begin(call % 20), 1);
            due("open", x.open(100), 20);
        }
        due("the 512th call", x.proofSize(), 21);
    }
}
