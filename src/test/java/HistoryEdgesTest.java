import java.util.function.ToIntFunction;

/** Promises 11, 12 and 13: the boundary cases of the history and of the snapshot. */
public final class HistoryEdgesTest extends Cases {
    public static void main(String[] args) throws ReflectiveOperationException {
        new HistoryEdgesTest().runAll();
    }

    /** An object with one state, a snapshot, a tree, and a text without a fault. */
    private static CheapProofs begun() {
        CheapProofs x = new CheapProofs();
        x.addMove(0, 1);
        x.keep();
        x.undo();
        Checks.typeAll(x, "0>1.2,2w");
        x.begin(0);
        return x;
    }

    // ---- promise 11: undo, and what is recorded

    /** "NONE if the history is empty": it was emptied */
    void undoMoreThanThereIs() {
        CheapProofs x = Scenes.fourStates();
        for (int left = 3; left >= 0; left--) {
            due("undo", x.undo(), left);
        }
        for (int i = 0; i < 3; i++) {
            due("undo no more", x.undo(), -5);
            due("moves stay", x.count(0), 1);
            due("states", x.count(9), 0);
        }
    }

    /** "Returns the number of states that are left": none behind the only one */
    void undoTheOnlyOne() {
        CheapProofs x = new CheapProofs();
        x.addMove(0, 0);
        due("undo", x.undo(), 0);
        due("moves", x.count(0), 0);
        due("undo", x.undo(), -5);
    }

    /** "A history of at most 4 states is kept": the fourth has room */
    void fourthState() {
        CheapProofs x = new CheapProofs();
        for (int i = 1; i <= 4; i++) {
            x.addMove(0, i);
            due("states", x.count(9), i);
        }
        for (int i = 0; i < 4; i++) {
            x.undo();
        }
        due("the first state of all", x.count(0), 0);
    }

    /** "when one more is recorded, the oldest one is dropped" */
    void fifthStateDropsTheOldest() {
        CheapProofs x = Scenes.fourStates();
        due("states", x.count(9), 4);
        for (int i = 0; i < 4; i++) {
            x.undo();
        }
        due("the first state of all is gone", x.count(0), 1);
    }

    /** "the oldest one is dropped": so often that each place of the history is used again, with undo() between */
    void manyStates() {
        CheapProofs x = new CheapProofs();
        for (int i = 0; i < 11; i++) {
            x.guess(0, 2 + i % 8, 1);
        }
        due("guess", x.position(0, 2), 2 + 10 % 8);
        due("undo", x.undo(), 3);
        due("undo", x.undo(), 2);
        due("guess", x.position(0, 2), 2 + 8 % 8);
        x.guess(0, 9, 9);
        x.guess(0, 8, 9);
        x.guess(0, 7, 9);
        due("states", x.count(9), 4);
        int[] guesses = {8, 9, 2, 9};
        for (int i = 0; i < 4; i++) {
            due("undo", x.undo(), 3 - i);
            due("guess", x.position(0, 2), guesses[i]);
        }
        due("undo", x.undo(), -5);
    }

    /** "Each call of a method that is described as an act [..] records": each of the eight */
    void eachActIsRecorded() {
        recorded("setPosition", HistoryEdgesTest::begun, x -> x.setPosition(0, 1, 0), 0);
        recorded("guess", HistoryEdgesTest::begun, x -> x.guess(0, 1, 2), 1);
        recorded("addMove", HistoryEdgesTest::begun, x -> x.addMove(0, 0), 1);
        recorded("removeMove", () -> Checks.gameOf("0>1"), x -> x.removeMove(0, 1), 0);
        recorded("readGame", HistoryEdgesTest::begun, CheapProofs::readGame, 2);
        recorded("begin", HistoryEdgesTest::begun, x -> x.begin(0), 9999);
        recorded("open", () -> withTree("0>1"), x -> x.open(1), 1);
        recorded("restore", HistoryEdgesTest::begun, CheapProofs::restore, 1);
    }

    private static CheapProofs withTree(String game) {
        CheapProofs x = Checks.gameOf(game);
        x.begin(0);
        return x;
    }

    /** "that is described as an act": type(), clearText(), keep() and what is told are none */
    void otherCallsAreNotRecorded() {
        notRecorded("type", x -> x.type('x'));
        notRecorded("clearText", CheapProofs::clearText);
        notRecorded("keep", CheapProofs::keep);
        notRecorded("position", x -> x.position(0, 7));
        notRecorded("move", x -> x.move(0, 0));
        notRecorded("node", x -> x.node(0, 2));
        notRecorded("way", x -> x.way(0));
        notRecorded("playOut", x -> x.playOut(1, 1));
        notRecorded("proofSize", CheapProofs::proofSize);
        notRecorded("count", x -> x.count(8));
    }

    private void notRecorded(String call, ToIntFunction<CheapProofs> made) {
        CheapProofs x = Scenes.proved();
        int states = x.count(9);
        made.applyAsInt(x);
        due(call + ": states", x.count(9), states);
        x.undo();
        due(call + ": the state before is that of the last act", x.count(4), 0);
    }

    /** "and returns no error": an act that does is not recorded, nor is the oldest state dropped for it */
    void errorsAreNotRecorded() {
        refused("setPosition", Scenes::fourStates, x -> x.setPosition(20, 0, 1), -1);
        refused("setPosition", Scenes::fourStates, x -> x.setPosition(0, 0, 3), -2);
        refused("guess", Scenes::fourStates, x -> x.guess(0, 0, 1), -2);
        refused("addMove", Scenes::sixtyMoves, x -> x.addMove(19, 0), -3);
        refused("removeMove", Scenes::fourStates, x -> x.removeMove(1, 0), -1);
        refused("readGame", Scenes::fourStates, CheapProofs::readGame, -100);
        refused("begin", Scenes::fourStates, x -> x.begin(20), -1);
        refused("open", Scenes::fourStates, x -> x.open(1), -4);
    }

    /** "and not NONE": an act that does is not recorded, nor is the oldest state dropped for it */
    void noneIsNotRecorded() {
        refused("setPosition", Scenes::fourStates, x -> x.setPosition(0, 0, 0), -5);
        refused("guess", Scenes::fourStates, x -> x.guess(0, 1, 1), -5);
        refused("addMove", Scenes::fourStates, x -> x.addMove(0, 4), -5);
        refused("open", () -> Scenes.fullFrom(0), x -> x.open(1), -5);
        refused("restore", Scenes::fourStates, CheapProofs::restore, -5);
    }

    /** "undo() removes and restores the latest one": it is no act, and cannot be undone */
    void undoIsNoAct() {
        CheapProofs x = new CheapProofs();
        x.addMove(0, 1);
        x.addMove(0, 2);
        due("undo", x.undo(), 1);
        due("undo", x.undo(), 0);
        due("moves", x.count(0), 0);
        due("undo", x.undo(), -5);
        due("moves", x.count(0), 0);
    }

    /** "A state is everything but the text": undo() leaves the text, its characters too */
    void undoLeavesTheText() {
        CheapProofs x = new CheapProofs();
        Checks.typeAll(x, "0>1");
        x.readGame();
        x.clearText();
        Checks.typeAll(x, "5w");
        due("undo", x.undo(), 0);
        due("length", x.count(10), 2);
        due("read", x.readGame(), 0);
        due("mark", x.position(5, 1), 1);
    }

    /** "everything but [..] the snapshot": undo() leaves the snapshot */
    void undoLeavesTheSnapshot() {
        CheapProofs x = new CheapProofs();
        x.addMove(0, 1);
        due("keep", x.keep(), 1);
        due("undo", x.undo(), 0);
        due("restore", x.restore(), 1);
        due("move", x.move(0, 0), 1);
    }

    /** "A state is everything": no tree, when there was none; a tree, when there was one, with each of its nodes */
    void undoBringsTheTree() {
        CheapProofs x = begun();
        due("undo of begin", x.undo(), 0);
        due("nodes", x.count(1), 0);
        CheapProofs y = Scenes.fullFrom(19);
        String full = Told.whole(y);
        y.setPosition(0, 0, 1);
        due("no tree", y.count(1), 0);
        due("undo", y.undo(), 3);
        same("all as it was", Told.whole(y), full);
        due("nodes", y.count(1), 200);
    }

    // ---- promise 12: keep

    /** "Returns the number of moves": none, and 60 */
    void keepFewestAndMostMoves() {
        due("none", new CheapProofs().keep(), 0);
        due("sixty", Scenes.sixtyMoves().keep(), 60);
    }

    /** "in place of the one that was" */
    void keepInPlaceOfTheFormer() {
        CheapProofs x = Scenes.sixtyMoves();
        due("keep", x.keep(), 60);
        x.removeMove(0, 0);
        due("keep", x.keep(), 59);
        x.removeMove(0, 1);
        due("restore", x.restore(), 59);
        due("move", x.move(0, 0), 1);
    }

    /** "Takes a snapshot of the state": what is done then does not change it */
    void keepIsACopy() {
        CheapProofs x = Scenes.played();
        due("keep", x.keep(), 6);
        String kept = Told.whole(x);
        x.open(100);
        x.guess(0, 9, 9);
        x.setPosition(0, 1, 2);
        x.removeMove(1, 3);
        due("restore", x.restore(), 6);
        same("the state", Told.whole(x), kept);
    }

    // ---- promise 13: restore

    /** "NONE if there is no snapshot" */
    void restoreWithoutSnapshot() {
        refused("a new object", Scenes::fresh, CheapProofs::restore, -5);
        refused("with states", Scenes::fourStates, CheapProofs::restore, -5);
        refused("with a full tree", () -> Scenes.fullFrom(19), CheapProofs::restore, -5);
    }

    /** "NONE if there is no snapshot": one of a game without moves is one */
    void restoreAnEmptyGame() {
        CheapProofs x = new CheapProofs();
        due("keep", x.keep(), 0);
        due("restore", x.restore(), 0);
        x.addMove(0, 1);
        x.guess(3, 4, 5);
        due("restore", x.restore(), 0);
        due("moves", x.count(0), 0);
        due("guess", x.position(3, 2), 1);
    }

    /** "the snapshot, which stays": again and again, whatever is done to the state that came of it */
    void restoreAgain() {
        CheapProofs x = Scenes.sixtyMovesAndTree();
        String kept = Told.whole(x);
        for (int i = 0; i < 6; i++) {
            x.open(1 + i);
            x.undo();
            x.open(1);
            same("restore from another tree", restored(x), kept);
            x.removeMove(i % 3, i);
            x.guess(i, 9, 9);
            x.setPosition(i, 1, 1);
            same("restore from another game", restored(x), kept);
        }
    }

    private static String restored(CheapProofs x) {
        x.restore();
        return Told.whole(x);
    }

    /** "This is an act": when all is so already, too */
    void restoreWhatIsSo() {
        CheapProofs x = new CheapProofs();
        x.keep();
        for (int i = 1; i <= 5; i++) {
            due("restore", x.restore(), 0);
            due("states", x.count(9), Math.min(4, i));
        }
    }

    /** "A state is everything but the text, the history": restore() leaves both, but for what it records */
    void restoreLeavesTextAndHistory() {
        CheapProofs x = new CheapProofs();
        x.keep();
        Checks.typeAll(x, "5w");
        x.addMove(0, 1);
        x.addMove(0, 2);
        due("restore", x.restore(), 0);
        due("length", x.count(10), 2);
        due("states", x.count(9), 3);
        due("undo", x.undo(), 2);
        due("moves", x.count(0), 2);
        due("undo", x.undo(), 1);
        due("moves", x.count(0), 1);
        due("read", x.readGame(), 0);
        due("mark", x.position(5, 1), 1);
    }

    /** "when one more is recorded, the oldest one is dropped": by restore(), too */
    void restoreDropsTheOldest() {
        CheapProofs x = Scenes.fourStates();
        x.keep();
        due("restore", x.restore(), 5);
        due("states", x.count(9), 4);
        int[] moves = {5, 4, 3, 2};
        for (int i = 0; i < 4; i++) {
            due("undo", x.undo(), 3 - i);
            due("moves", x.count(0), moves[i]);
        }
    }

    /** "Restores the state of the snapshot": its tree too, one of 200 nodes, and none if it had none */
    void restoreBringsTheTree() {
        CheapProofs x = Scenes.fullFrom(19);
        x.keep();
        x.begin(0);
        x.restore();
        due("nodes", x.count(1), 200);
        same("all as it was", Told.whole(x), Told.whole(Scenes.fullFrom(19)));
        CheapProofs y = begun();
        due("restore", y.restore(), 1);
        due("no tree", y.count(1), 0);
    }
}
