/** Promises 1, 2, 3 and 14: the boundary cases of a new object, of positions and of guesses. */
public final class PositionEdgesTest extends Cases {
    private static final int[] UNKNOWN = {-1, 20, MOST, LEAST};

    public static void main(String[] args) throws ReflectiveOperationException {
        new PositionEdgesTest().runAll();
    }

    // ---- promise 1: a new object

    /** "Creates a game without moves." */
    void newObjectHasNoMoves() {
        CheapProofs x = new CheapProofs();
        due("moves", x.count(0), 0);
        for (int p = 0; p < 20; p++) {
            due("moves of " + p, x.position(p, 4), 0);
            due("first move of " + p, x.move(p, 0), -5);
        }
    }

    /** "the turn of the attacker (0, at first)" */
    void newPositionsAreTheAttackers() {
        each(new CheapProofs(), 0, 0);
    }

    /** "a mark: 0 none (at first)" */
    void newPositionsHaveNoMark() {
        each(new CheapProofs(), 1, 0);
    }

    /** "(1 to 9 each; at first 1)" */
    void newGuessesAreOne() {
        each(new CheapProofs(), 2, 1);
        each(new CheapProofs(), 3, 1);
    }

    /** "A position that is marked, or has no move, is an end: it is won if it is marked so, otherwise lost." */
    void newPositionsAreLostEnds() {
        each(new CheapProofs(), 5, 1);
        each(new CheapProofs(), 6, 0);
        each(new CheapProofs(), 7, -5);
        due("positions won", new CheapProofs().count(8), 0);
    }

    /** "There is a tree of nodes, or none (none at first)" */
    void newObjectHasNoTree() {
        CheapProofs x = new CheapProofs();
        due("nodes", x.count(1), 0);
        due("root", x.node(0, 0), -1);
        due("way", x.way(0), -5);
        due("open", x.open(1), -4);
        due("playOut", x.playOut(0, 0), -4);
        due("proofSize", x.proofSize(), -4);
    }

    /** "There is a text of at most 60 characters, empty at first." */
    void newTextIsEmpty() {
        CheapProofs x = new CheapProofs();
        due("length", x.count(10), 0);
        due("fault", x.readGame(), -100);
        due("clearText", x.clearText(), 0);
    }

    /** "NONE if the history is empty", as it is at first */
    void newHistoryIsEmpty() {
        due("states", new CheapProofs().count(9), 0);
        refused("undo", Scenes::fresh, CheapProofs::undo, -5);
    }

    /** "There is one snapshot, empty at first." */
    void newSnapshotIsEmpty() {
        refused("restore", Scenes::fresh, CheapProofs::restore, -5);
    }

    /** What one object does is not seen by another one. */
    void objectsShareNothing() {
        CheapProofs x = new CheapProofs();
        CheapProofs other = Scenes.played();
        due("moves of the other one", other.count(0), 6);
        due("moves", x.count(0), 0);
        due("nodes", x.count(1), 0);
        due("text", x.count(10), 0);
        due("undo", x.undo(), -5);
        due("restore", x.restore(), -5);
    }

    private void each(CheapProofs x, int what, int want) {
        for (int p = 0; p < 20; p++) {
            due("position(" + p + ", " + what + ")", x.position(p, what), want);
        }
    }

    // ---- promise 2: setPosition

    /** "position: 0 to 19" */
    void setLowestPosition() {
        recorded("set", Scenes::fresh, x -> x.setPosition(0, 1, 1), 0);
    }

    /** "position: 0 to 19" */
    void setHighestPosition() {
        recorded("set", Scenes::fresh, x -> x.setPosition(19, 1, 1), 0);
        CheapProofs x = new CheapProofs();
        x.setPosition(19, 1, 1);
        due("turn", x.position(19, 0), 1);
        due("mark", x.position(19, 1), 1);
        due("turn of the one before", x.position(18, 0), 0);
        due("mark of the one before", x.position(18, 1), 0);
    }

    /** "UNKNOWN = -1: There is no such position" */
    void setUnknownPosition() {
        refusedEach(UNKNOWN, Scenes::played, (x, p) -> x.setPosition(p, 1, 2), -1);
    }

    /** "turn: 0 or 1", too small */
    void setTurnTooSmall() {
        refusedEach(new int[] {-1, LEAST}, Scenes::played, (x, turn) -> x.setPosition(0, turn, 2), -2);
    }

    /** "turn: 0 or 1", too large */
    void setTurnTooLarge() {
        refusedEach(new int[] {2, MOST}, Scenes::played, (x, turn) -> x.setPosition(0, turn, 2), -2);
    }

    /** "mark: 0 to 2", too small */
    void setMarkTooSmall() {
        refusedEach(new int[] {-1, LEAST}, Scenes::played, (x, mark) -> x.setPosition(0, 1, mark), -2);
    }

    /** "mark: 0 to 2", too large */
    void setMarkTooLarge() {
        refusedEach(new int[] {3, MOST}, Scenes::played, (x, mark) -> x.setPosition(0, 1, mark), -2);
    }

    /** "mark: 0 to 2", and "Returns the previous mark" */
    void setEachMark() {
        CheapProofs x = new CheapProofs();
        int[] marks = {2, 1, 0, 1, 2, 0};
        int previous = 0;
        for (int mark : marks) {
            due("set " + mark, x.setPosition(7, 0, mark), previous);
            due("mark", x.position(7, 1), mark);
            previous = mark;
        }
    }

    /** "UNKNOWN; BAD_VALUE": the order of the checks */
    void setUnknownAheadOfBad() {
        refusedEach(UNKNOWN, Scenes::played, (x, p) -> x.setPosition(p, 2, 0), -1);
        refusedEach(UNKNOWN, Scenes::played, (x, p) -> x.setPosition(p, 0, 3), -1);
    }

    /** "NONE is no error; it is returned only if no error applies": the one value is so already, the other is bad */
    void setBadAheadOfNone() {
        refused("bad mark", Scenes::played, x -> x.setPosition(1, 1, 3), -2);
        refused("bad turn", Scenes::played, x -> x.setPosition(1, 2, 0), -2);
    }

    /** "NONE if all is so already" */
    void setAllIsSo() {
        refused("a new one", Scenes::fresh, x -> x.setPosition(19, 0, 0), -5);
        refused("turn of the defender", Scenes::played, x -> x.setPosition(1, 1, 0), -5);
        refused("marked", Scenes::played, x -> x.setPosition(3, 0, 1), -5);
    }

    /** "NONE if all is so already": not if the mark alone is so */
    void setTurnAlone() {
        recorded("turn", Scenes::fresh, x -> x.setPosition(3, 1, 0), 0);
        due("previous mark", Scenes.played().setPosition(4, 1, 2), 2);
    }

    /** "NONE if all is so already": not if the turn alone is so */
    void setMarkAlone() {
        recorded("mark", Scenes::fresh, x -> x.setPosition(3, 0, 2), 0);
        due("previous mark", Scenes.played().setPosition(3, 0, 0), 1);
    }

    /** "An act that changes positions [..] leaves no tree", and so one at a position that is not in the tree */
    void setLeavesNoTree() {
        CheapProofs x = Scenes.played();
        due("set", x.setPosition(19, 1, 0), 0);
        due("nodes", x.count(1), 0);
        due("root", x.node(0, 0), -1);
    }

    // ---- promise 3: guess

    /** "position: 0 to 19" */
    void guessLowestPosition() {
        recorded("guess", Scenes::fresh, x -> x.guess(0, 2, 3), 1);
    }

    /** "position: 0 to 19" */
    void guessHighestPosition() {
        recorded("guess", Scenes::fresh, x -> x.guess(19, 2, 3), 1);
        CheapProofs x = new CheapProofs();
        x.guess(19, 2, 3);
        due("to prove", x.position(19, 2), 2);
        due("to disprove", x.position(19, 3), 3);
        due("the one before", x.position(18, 2), 1);
        due("the one before", x.position(18, 3), 1);
    }

    /** "UNKNOWN = -1: There is no such position" */
    void guessUnknownPosition() {
        refusedEach(UNKNOWN, Scenes::played, (x, p) -> x.guess(p, 2, 2), -1);
    }

    /** "prove: 1 to 9", too small */
    void guessProveTooSmall() {
        refusedEach(new int[] {0, -1, LEAST}, Scenes::played, (x, cost) -> x.guess(0, cost, 2), -2);
    }

    /** "prove: 1 to 9", too large */
    void guessProveTooLarge() {
        refusedEach(new int[] {10, MOST}, Scenes::played, (x, cost) -> x.guess(0, cost, 2), -2);
    }

    /** "disprove: 1 to 9", too small */
    void guessDisproveTooSmall() {
        refusedEach(new int[] {0, -1, LEAST}, Scenes::played, (x, cost) -> x.guess(0, 2, cost), -2);
    }

    /** "disprove: 1 to 9", too large */
    void guessDisproveTooLarge() {
        refusedEach(new int[] {10, MOST}, Scenes::played, (x, cost) -> x.guess(0, 2, cost), -2);
    }

    /** "1 to 9 each", and "Returns the previous guess to prove it" */
    void guessLeastAndMost() {
        CheapProofs x = new CheapProofs();
        due("the most", x.guess(5, 9, 9), 1);
        due("to prove", x.position(5, 2), 9);
        due("to disprove", x.position(5, 3), 9);
        due("the least", x.guess(5, 1, 1), 9);
        due("to prove", x.position(5, 2), 1);
        due("to disprove", x.position(5, 3), 1);
        due("one of each", x.guess(5, 1, 9), 1);
        due("the other way round", x.guess(5, 9, 1), 1);
        due("back", x.guess(5, 1, 1), 9);
    }

    /** "UNKNOWN; BAD_VALUE": the order of the checks */
    void guessUnknownAheadOfBad() {
        refusedEach(UNKNOWN, Scenes::played, (x, p) -> x.guess(p, 0, 1), -1);
        refusedEach(UNKNOWN, Scenes::played, (x, p) -> x.guess(p, 1, 10), -1);
    }

    /** "NONE [..] is returned only if no error applies": the one guess is so already, the other is bad */
    void guessBadAheadOfNone() {
        refused("bad disprove", Scenes::played, x -> x.guess(1, 2, 10), -2);
        refused("bad prove", Scenes::played, x -> x.guess(1, 0, 3), -2);
    }

    /** "NONE if both are so already" */
    void guessBothAreSo() {
        refused("a new one", Scenes::fresh, x -> x.guess(0, 1, 1), -5);
        refused("a guess", Scenes::played, x -> x.guess(1, 2, 3), -5);
    }

    /** "NONE if both are so already": not if the guess to prove alone is so */
    void guessDisproveAlone() {
        recorded("guess", Scenes::fresh, x -> x.guess(0, 1, 2), 1);
    }

    /** "NONE if both are so already": not if the guess to disprove alone is so */
    void guessProveAlone() {
        recorded("guess", Scenes::fresh, x -> x.guess(0, 2, 1), 1);
    }

    /** "An act that changes positions (their guesses, too) [..] leaves no tree" */
    void guessLeavesNoTree() {
        CheapProofs x = Scenes.played();
        due("guess", x.guess(19, 1, 2), 1);
        due("nodes", x.count(1), 0);
    }

    // ---- promise 14: position

    /** "UNKNOWN = -1: There is no such position" */
    void tellUnknownPosition() {
        for (int what = 0; what < 8; what++) {
            int asked = what;
            refusedEach(UNKNOWN, Scenes::played, (x, p) -> x.position(p, asked), -1);
        }
    }

    /** what goes from 0 to 7: too small */
    void tellWhatTooSmall() {
        refusedEach(new int[] {-1, LEAST}, Scenes::played, (x, what) -> x.position(0, what), -2);
    }

    /** what goes from 0 to 7: too large */
    void tellWhatTooLarge() {
        refusedEach(new int[] {8, MOST}, Scenes::played, (x, what) -> x.position(0, what), -2);
    }

    /** "UNKNOWN; BAD_VALUE": the order of the checks */
    void tellUnknownAheadOfBad() {
        refusedEach(UNKNOWN, Scenes::played, (x, p) -> x.position(p, 8), -1);
        refusedEach(UNKNOWN, Scenes::played, (x, p) -> x.position(p, -1), -1);
    }

    /** "4 for its moves": none, and as many as there are positions */
    void tellFewestAndMostMoves() {
        CheapProofs x = Scenes.sixtyMoves();
        due("most", x.position(2, 4), 20);
        due("fewest", x.position(3, 4), 0);
    }

    /** "A position that is marked [..] is an end", with moves too */
    void markedWithMovesIsAnEnd() {
        CheapProofs x = Checks.gameOf("0>1,0l,1>0,1w");
        due("lost", x.position(0, 5), 1);
        due("won", x.position(1, 5), 1);
        due("its moves are told", x.position(0, 4), 1);
        due("won all the same", x.position(1, 7), 0);
        due("lost, though a move leads to a won one", x.position(0, 6), 0);
    }

    /** "or has no move": the first move ends that, the removal of the only one brings it back */
    void endByTheFirstAndTheOnlyMove() {
        CheapProofs x = new CheapProofs();
        due("none", x.position(0, 5), 1);
        x.addMove(0, 0);
        due("one, to itself", x.position(0, 5), 0);
        x.removeMove(0, 0);
        due("none again", x.position(0, 5), 1);
    }

    /** "it is no end, and [..] all moves do": a defender without moves is an end, and lost */
    void defenderWithoutMovesIsLost() {
        CheapProofs x = Checks.gameOf("0d,1d,1>0");
        due("wins", x.position(0, 6), 0);
        due("round", x.position(0, 7), -5);
        due("nor does a move to it", x.position(1, 6), 0);
    }

    /** "any move leads to a position from which the attacker wins": the last of many */
    void attackerWinsByOneOfMany() {
        CheapProofs x = Checks.gameOf("0>1.2.3.4.0,4w");
        due("wins", x.position(0, 6), 1);
        due("round", x.position(0, 7), 1);
    }

    /** "all moves do": all but one are not enough */
    void defenderLosesByAllOnly() {
        CheapProofs x = Checks.gameOf("0d,0>1.2.3,1w,2w,3w");
        due("all", x.position(0, 6), 1);
        x.setPosition(3, 0, 0);
        due("all but the last", x.position(0, 6), 0);
        x.setPosition(3, 0, 1);
        x.setPosition(1, 0, 0);
        due("all but the first", x.position(0, 6), 0);
    }

    /** "whoever goes round in loops does not win" */
    void loopsAreNotWon() {
        CheapProofs x = Checks.gameOf("0>0,1d,1>1,2d,2>2.5,3>4,4d,4>3.5,5w,6>6.5");
        int[] wants = {0, 0, 0, 0, 0, 1, 1};
        for (int p = 0; p < wants.length; p++) {
            due("wins " + p, x.position(p, 6), wants[p]);
            due("round of " + p, x.position(p, 7), wants[p] == 0 ? -5 : p == 5 ? 0 : 1);
        }
    }

    /** "in the round 0 all won ends are won" */
    void wonEndsAreRoundZero() {
        CheapProofs x = Checks.gameOf("0w,19w,5w,5>6,6d");
        due("first", x.position(0, 7), 0);
        due("last", x.position(19, 7), 0);
        due("with moves", x.position(5, 7), 0);
        due("positions won", x.count(8), 3);
    }

    /** "in each later one those positions that are won by those of earlier rounds": by no one of the same round */
    void roundsTakeEarlierOnesOnly() {
        // by the order of the numbers 1 comes ahead of 2, and 3 behind it
        CheapProofs x = Checks.gameOf("0w,1>2,2>0,3>2,4d,4>0.1,5d,5>3.2");
        int[] rounds = {0, 2, 1, 2, 3, 3};
        for (int p = 0; p < rounds.length; p++) {
            due("round of " + p, x.position(p, 7), rounds[p]);
        }
    }

    /** "7 for the round in which it is won": the latest there can be, with a chain up and one down */
    void latestRound() {
        CheapProofs down = new CheapProofs();
        CheapProofs up = new CheapProofs();
        for (int p = 0; p < 19; p++) {
            down.addMove(p, p + 1);
            up.addMove(p + 1, p);
        }
        down.setPosition(19, 0, 1);
        up.setPosition(0, 0, 1);
        for (int p = 0; p < 20; p++) {
            due("down", down.position(p, 7), 19 - p);
            due("up", up.position(p, 7), p);
        }
    }

    /** "7 for the round in which it is won (NONE if it is not)" */
    void noRoundWithoutWin() {
        CheapProofs x = Checks.gameOf("0l,1>0,2d,2>0.3,3w,4>4");
        for (int p = 0; p < 5; p++) {
            due("round of " + p, x.position(p, 7), p == 3 ? 0 : -5);
        }
    }
}
