/** Promises 4, 5 and 15: the boundary cases of moves. */
public final class MoveEdgesTest extends Cases {
    private static final int[] UNKNOWN = {-1, 20, MOST, LEAST};

    public static void main(String[] args) throws ReflectiveOperationException {
        new MoveEdgesTest().runAll();
    }

    private void ranks(CheapProofs x, int from, int... wants) {
        for (int rank = 0; rank < wants.length; rank++) {
            due("move(" + from + ", " + rank + ")", x.move(from, rank), wants[rank]);
        }
        due("no move behind", x.move(from, wants.length), -5);
        due("moves of it", x.position(from, 4), wants.length);
    }

    // ---- promise 4: addMove

    /** "from: 0 to 19", "to: 0 to 19": the lowest and the highest ones */
    void addLowestAndHighest() {
        recorded("up", Scenes::fresh, x -> x.addMove(0, 19), 1);
        recorded("down", Scenes::fresh, x -> x.addMove(19, 0), 1);
        CheapProofs x = new CheapProofs();
        x.addMove(19, 0);
        ranks(x, 19, 0);
        ranks(x, 18);
        ranks(x, 0);
    }

    /** "UNKNOWN (from or to)": from */
    void addFromUnknown() {
        refusedEach(UNKNOWN, Scenes::played, (x, p) -> x.addMove(p, 5), -1);
    }

    /** "UNKNOWN (from or to)": to */
    void addToUnknown() {
        refusedEach(UNKNOWN, Scenes::played, (x, p) -> x.addMove(5, p), -1);
    }

    /** "from a position to another one, or to itself" */
    void addToItself() {
        recorded("lowest", Scenes::fresh, x -> x.addMove(0, 0), 1);
        recorded("highest", Scenes::fresh, x -> x.addMove(19, 19), 1);
    }

    /** "at most one leads from a position to a position", "NONE if there is this move already" */
    void addAgain() {
        refused("first of its moves", Scenes::played, x -> x.addMove(0, 1), -5);
        refused("last of its moves", Scenes::played, x -> x.addMove(0, 0), -5);
        refused("the only one", Scenes::played, x -> x.addMove(2, 3), -5);
    }

    /** "at most one leads from a position to a position": the way back is another move */
    void addTheWayBack() {
        CheapProofs x = new CheapProofs();
        due("there", x.addMove(4, 5), 1);
        due("back", x.addMove(5, 4), 1);
        due("moves", x.count(0), 2);
    }

    /** "at most 60 moves": the sixtieth has room */
    void sixtiethMove() {
        CheapProofs x = Scenes.sixtyMoves();
        due("moves", x.count(0), 60);
        x.removeMove(2, 19);
        due("59", x.count(0), 59);
        due("the sixtieth again", x.addMove(2, 19), 20);
        due("60", x.count(0), 60);
    }

    /** "FULL if there are 60" */
    void sixtyFirstMove() {
        refused("from one with moves", Scenes::sixtyMovesAndTree, x -> x.addMove(3, 0), -3);
        refused("to itself", Scenes::sixtyMovesAndTree, x -> x.addMove(19, 19), -3);
    }

    /** "NONE [..] (but by addMove(), ahead of FULL)" */
    void addNoneAheadOfFull() {
        refused("the first one", Scenes::sixtyMovesAndTree, x -> x.addMove(0, 0), -5);
        refused("the last one", Scenes::sixtyMovesAndTree, x -> x.addMove(2, 19), -5);
    }

    /** "UNKNOWN (from or to); NONE [..]; FULL [..]": the order of the checks */
    void addUnknownAheadOfFull() {
        refusedEach(UNKNOWN, Scenes::sixtyMovesAndTree, (x, p) -> x.addMove(p, 0), -1);
        refusedEach(UNKNOWN, Scenes::sixtyMovesAndTree, (x, p) -> x.addMove(3, p), -1);
    }

    /** "FULL if there are 60": there is room again for one when one is removed, or an act is undone */
    void roomAgain() {
        CheapProofs x = Scenes.sixtyMoves();
        x.removeMove(0, 0);
        due("add", x.addMove(3, 0), 1);
        due("full again", x.addMove(3, 1), -3);
        due("undo", x.undo(), 3);
        due("add another one", x.addMove(19, 7), 1);
        due("full again", x.addMove(3, 0), -3);
    }

    /** "Returns how many moves from has then": as many as there are positions, itself too */
    void twentyMovesOfOne() {
        CheapProofs x = new CheapProofs();
        for (int to = 19; to >= 0; to--) {
            due("add", x.addMove(10, to), 20 - to);
        }
        for (int rank = 0; rank < 20; rank++) {
            due("rank " + rank, x.move(10, rank), 19 - rank);
        }
        due("no move behind", x.move(10, 20), -5);
        ranks(x, 11);
        for (int to = 0; to < 20; to++) {
            due("add again", x.addMove(10, to), -5);
        }
    }

    /** "The moves of a position are in the order in which they were added": one that was removed comes last */
    void removedAndAddedComesLast() {
        CheapProofs x = Checks.gameOf("5>1.2.3");
        x.removeMove(5, 1);
        due("add", x.addMove(5, 1), 3);
        ranks(x, 5, 2, 3, 1);
    }

    /** "An act that changes [..] moves leaves no tree" */
    void addLeavesNoTree() {
        CheapProofs x = Scenes.played();
        due("add", x.addMove(19, 18), 1);
        due("nodes", x.count(1), 0);
    }

    // ---- promise 5: removeMove

    /** "UNKNOWN (from or to [..])": from */
    void removeFromUnknown() {
        refusedEach(UNKNOWN, Scenes::played, (x, p) -> x.removeMove(p, 1), -1);
    }

    /** "UNKNOWN (from or to [..])": to */
    void removeToUnknown() {
        refusedEach(UNKNOWN, Scenes::played, (x, p) -> x.removeMove(0, p), -1);
    }

    /** "or there is no such move" */
    void removeWhatIsNotThere() {
        refused("a game without moves", Scenes::fresh, x -> x.removeMove(0, 0), -1);
        refused("from one with moves", Scenes::played, x -> x.removeMove(0, 3), -1);
        refused("from one without", Scenes::played, x -> x.removeMove(19, 0), -1);
        refused("the way back", Scenes::played, x -> x.removeMove(3, 2), -1);
        refused("a game that is full", Scenes::sixtyMovesAndTree, x -> x.removeMove(3, 0), -1);
    }

    /** "Returns how many moves from has then": none when the only one is removed, and once only */
    void removeTheOnlyOne() {
        CheapProofs x = Checks.gameOf("7>7");
        due("remove", x.removeMove(7, 7), 0);
        due("moves", x.count(0), 0);
        ranks(x, 7);
        due("remove again", x.removeMove(7, 7), -1);
    }

    /** "in the order in which they were added": without the first */
    void removeTheFirst() {
        CheapProofs x = Checks.gameOf("5>1.2.3.4");
        due("remove", x.removeMove(5, 1), 3);
        ranks(x, 5, 2, 3, 4);
    }

    /** "in the order in which they were added": without one between */
    void removeOneBetween() {
        CheapProofs x = Checks.gameOf("5>1.2.3.4");
        due("remove", x.removeMove(5, 3), 3);
        ranks(x, 5, 1, 2, 4);
    }

    /** "in the order in which they were added": without the last */
    void removeTheLast() {
        CheapProofs x = Checks.gameOf("5>1.2.3.4,6>0");
        due("remove", x.removeMove(5, 4), 3);
        ranks(x, 5, 1, 2, 3);
        ranks(x, 6, 0);
    }

    /** "Returns how many moves from has then": of 60 in all, one after the other, down to none */
    void removeAllOfSixty() {
        CheapProofs x = Scenes.sixtyMoves();
        for (int i = 59; i >= 0; i--) {
            due("remove", x.removeMove(i / 20, i % 20), i % 20);
            due("moves", x.count(0), i);
        }
        due("no more", x.removeMove(0, 0), -1);
    }

    /** "An act that changes [..] moves leaves no tree" */
    void removeLeavesNoTree() {
        CheapProofs x = Scenes.sixtyMovesAndTree();
        due("remove", x.removeMove(2, 19), 19);
        due("nodes", x.count(1), 0);
    }

    // ---- promise 15: move

    /** "UNKNOWN = -1: There is no such position" */
    void moveOfUnknown() {
        refusedEach(UNKNOWN, Scenes::played, (x, p) -> x.move(p, 0), -1);
    }

    /** "BAD_VALUE if rank is negative" */
    void moveRankNegative() {
        refusedEach(new int[] {-1, LEAST}, Scenes::played, (x, rank) -> x.move(0, rank), -2);
    }

    /** "UNKNOWN; BAD_VALUE": the order of the checks */
    void moveUnknownAheadOfBad() {
        refusedEach(UNKNOWN, Scenes::played, (x, p) -> x.move(p, -1), -1);
    }

    /** "BAD_VALUE [..]; NONE": of a position without moves, too */
    void moveBadAheadOfNone() {
        refusedEach(new int[] {-1, LEAST}, Scenes::played, (x, rank) -> x.move(19, rank), -2);
    }

    /** "NONE if there are not so many": the rank behind the last, and the greatest ones */
    void moveRankTooLarge() {
        refusedEach(new int[] {3, 4, 20, 60, MOST}, Scenes::played, (x, rank) -> x.move(0, rank), -5);
        refusedEach(new int[] {20, 21, 40, 400, MOST}, Scenes::sixtyMoves, (x, rank) -> x.move(0, rank), -5);
    }

    /** "NONE if there are not so many": none at all */
    void moveOfOneWithoutMoves() {
        refusedEach(new int[] {0, 1, MOST}, Scenes::played, (x, rank) -> x.move(19, rank), -5);
    }

    /** "a rank among its moves, from 0": the first and the last */
    void moveFirstAndLastRank() {
        CheapProofs x = Scenes.sixtyMoves();
        for (int from = 0; from < 3; from++) {
            due("first", x.move(from, 0), 0);
            due("last", x.move(from, 19), 19);
        }
    }
}
