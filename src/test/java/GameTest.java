/** Promises 1 to 5, 14 and 15: a new object, positions, guesses and moves, and what is told of them. */
public final class GameTest {
    private static final int MOST = Integer.MAX_VALUE;
    private static final int LEAST = Integer.MIN_VALUE;
    private static final Checks CHECKS = new Checks("GameTest");

    private GameTest() {
    }

    private static void due(String call, long got, long want) {
        CHECKS.due(call, got, want);
    }

    public static void main(String[] args) {
        newObject();
        setPosition();
        setPositionWrong();
        guess();
        guessWrong();
        addMove();
        addMoveFull();
        addMoveWrong();
        removeMove();
        positionNumbers();
        positionRounds();
        positionWrong();
        move();
        treeIsLeft();
        treeStays();
        CHECKS.end();
    }

    private static void newObject() {
        CheapProofs x = new CheapProofs();
        for (int p = 0; p < 20; p++) {
            due("new: turn", x.position(p, 0), 0);
            due("new: mark", x.position(p, 1), 0);
            due("new: guess to prove", x.position(p, 2), 1);
            due("new: guess to disprove", x.position(p, 3), 1);
            due("new: moves", x.position(p, 4), 0);
            due("new: end", x.position(p, 5), 1);
            due("new: wins", x.position(p, 6), 0);
            due("new: round", x.position(p, 7), -5);
            due("new: move", x.move(p, 0), -5);
        }
        due("new: node", x.node(0, 0), -1);
        due("new: undo", x.undo(), -5);
        due("new: restore", x.restore(), -5);
        due("new: clearText", x.clearText(), 0);
        int[] counts = {0, 0, -5, -5, -5, -5, -5, -5, 0, 0, 0};
        for (int what = 0; what < counts.length; what++) {
            due("new: count " + what, x.count(what), counts[what]);
        }
    }

    private static void setPosition() {
        CheapProofs x = new CheapProofs();
        due("set turn", x.setPosition(19, 1, 0), 0);
        due("turn", x.position(19, 0), 1);
        due("set mark", x.setPosition(19, 1, 2), 0);
        due("set again", x.setPosition(19, 1, 2), -5);
        due("history", x.count(9), 2);
        due("set turn back", x.setPosition(19, 0, 2), 2);
        due("set mark 1", x.setPosition(19, 0, 1), 2);
        due("set mark 0", x.setPosition(19, 0, 0), 1);
        due("mark", x.position(19, 1), 0);
        due("as at first", x.setPosition(0, 0, 0), -5);
        due("other position", x.position(18, 0), 0);
    }

    private static void setPositionWrong() {
        CheapProofs x = new CheapProofs();
        int[] positions = {-1, 20, MOST, LEAST};
        for (int p : positions) {
            due("set unknown", x.setPosition(p, 0, 1), -1);
            due("set unknown before bad", x.setPosition(p, 2, 3), -1);
        }
        int[] turns = {-1, 2, MOST, LEAST};
        int[] marks = {-1, 3, MOST, LEAST};
        for (int i = 0; i < turns.length; i++) {
            due("set bad turn", x.setPosition(0, turns[i], 0), -2);
            due("set bad mark", x.setPosition(0, 0, marks[i]), -2);
        }
        due("nothing is recorded", x.count(9), 0);
    }

    private static void guess() {
        CheapProofs x = new CheapProofs();
        due("guess", x.guess(0, 9, 1), 1);
        due("guess again", x.guess(0, 9, 1), -5);
        due("guess one of both", x.guess(0, 9, 9), 9);
        due("guess other of both", x.guess(0, 2, 9), 9);
        due("prove", x.position(0, 2), 2);
        due("disprove", x.position(0, 3), 9);
        due("history", x.count(9), 3);
        due("as at first", x.guess(1, 1, 1), -5);
    }

    private static void guessWrong() {
        CheapProofs x = new CheapProofs();
        int[] positions = {-1, 20, MOST, LEAST};
        for (int p : positions) {
            due("guess unknown", x.guess(p, 1, 2), -1);
            due("guess unknown before bad", x.guess(p, 0, 10), -1);
        }
        int[] guesses = {0, 10, -1, MOST, LEAST};
        for (int g : guesses) {
            due("guess bad prove", x.guess(0, g, 1), -2);
            due("guess bad disprove", x.guess(0, 1, g), -2);
        }
        due("nothing is recorded", x.count(9), 0);
    }

    private static void addMove() {
        CheapProofs x = new CheapProofs();
        due("add", x.addMove(0, 19), 1);
        due("add again", x.addMove(0, 19), -5);
        due("add to itself", x.addMove(0, 0), 2);
        due("add back", x.addMove(19, 0), 1);
        due("moves in all", x.count(0), 3);
        due("history", x.count(9), 3);
        for (int to = 1; to < 19; to++) {
            due("add to all", x.addMove(0, to), to + 2);
        }
        due("order 0", x.move(0, 0), 19);
        due("order 1", x.move(0, 1), 0);
        due("order 2", x.move(0, 2), 1);
        due("order 19", x.move(0, 19), 18);
        due("order of the next position", x.move(1, 0), -5);
    }

    private static void addMoveFull() {
        CheapProofs x = new CheapProofs();
        for (int i = 0; i < 60; i++) {
            due("add " + i, x.addMove(i / 20, i % 20), i % 20 + 1);
        }
        due("moves in all", x.count(0), 60);
        x.keep();
        due("full", x.addMove(3, 0), -3);
        due("there already, ahead of full", x.addMove(2, 19), -5);
        due("unknown, ahead of full", x.addMove(3, 20), -1);
        due("moves in all", x.count(0), 60);
        due("history", x.count(9), 4);
        due("remove", x.removeMove(2, 0), 19);
        due("room again", x.addMove(3, 0), 1);
        due("full again", x.addMove(3, 1), -3);
    }

    private static void addMoveWrong() {
        CheapProofs x = new CheapProofs();
        int[] positions = {-1, 20, MOST, LEAST};
        for (int p : positions) {
            due("add from unknown", x.addMove(p, 0), -1);
            due("add to unknown", x.addMove(0, p), -1);
            due("remove from unknown", x.removeMove(p, 0), -1);
            due("remove to unknown", x.removeMove(0, p), -1);
        }
        due("remove what is not there", x.removeMove(0, 0), -1);
        due("nothing is recorded", x.count(9), 0);
        due("no moves", x.count(0), 0);
    }

    private static void removeMove() {
        CheapProofs x = Checks.gameOf("5>1.2.3.4");
        due("remove the second", x.removeMove(5, 2), 3);
        due("remove it again", x.removeMove(5, 2), -1);
        due("rank 0", x.move(5, 0), 1);
        due("rank 1", x.move(5, 1), 3);
        due("rank 2", x.move(5, 2), 4);
        due("rank 3", x.move(5, 3), -5);
        due("add it behind", x.addMove(5, 2), 4);
        due("rank 3", x.move(5, 3), 2);
        due("remove the first", x.removeMove(5, 1), 3);
        due("remove the last", x.removeMove(5, 2), 2);
        due("remove", x.removeMove(5, 3), 1);
        due("remove the only one", x.removeMove(5, 4), 0);
        due("moves in all", x.count(0), 0);
        due("end again", x.position(5, 5), 1);
    }

    private static void positionNumbers() {
        CheapProofs x = Checks.gameOf("7>8.9,7d,8w,9l,9>7,10>10");
        x.guess(7, 3, 4);
        int[] wants = {1, 0, 3, 4, 2, 0, 0, -5};
        for (int what = 0; what < wants.length; what++) {
            due("position 7, " + what, x.position(7, what), wants[what]);
        }
        due("a marked one is an end", x.position(8, 5), 1);
        due("a marked one with moves is an end", x.position(9, 5), 1);
        due("its moves are told", x.position(9, 4), 1);
        due("a loop is no end", x.position(10, 5), 0);
        due("without moves it is an end", x.position(11, 5), 1);
        due("won end", x.position(8, 6), 1);
        due("won end in round 0", x.position(8, 7), 0);
        due("lost end", x.position(9, 6), 0);
        due("lost end has no round", x.position(9, 7), -5);
        due("end without mark", x.position(11, 6), 0);
    }

    private static void positionRounds() {
        // 0 has a long way by 1, 2 and a short one by 4; 5 is the defender's and waits for the longer way.
        CheapProofs x = Checks.gameOf("0>1.4,1>2,2>3,3w,4>3,5d,5>2.0,6>6.7,7d,7>6.3,8>7");
        int[] rounds = {2, 2, 1, 0, 1, 3, -5, -5, -5};
        for (int p = 0; p < rounds.length; p++) {
            due("round of " + p, x.position(p, 7), rounds[p]);
            due("wins " + p, x.position(p, 6), rounds[p] < 0 ? 0 : 1);
        }
        due("positions won", x.count(8), 6);
        x.setPosition(7, 0, 0);
        due("round of 7", x.position(7, 7), 1);
        due("round of 6", x.position(6, 7), 2);
        due("round of 8", x.position(8, 7), 2);
        // a chain against the numbers' order takes as many rounds as with it
        CheapProofs y = new CheapProofs();
        CheapProofs z = new CheapProofs();
        for (int p = 0; p < 19; p++) {
            y.addMove(p, p + 1);
            z.addMove(p + 1, p);
        }
        y.setPosition(19, 0, 1);
        z.setPosition(0, 0, 1);
        for (int p = 0; p < 20; p++) {
            due("chain down", y.position(p, 7), 19 - p);
            due("chain up", z.position(p, 7), p);
        }
    }

    private static void positionWrong() {
        CheapProofs x = new CheapProofs();
        int[] positions = {-1, 20, MOST, LEAST};
        for (int p : positions) {
            due("position unknown", x.position(p, 0), -1);
            due("position unknown before bad", x.position(p, 8), -1);
        }
        int[] whats = {-1, 8, MOST, LEAST};
        for (int what : whats) {
            due("position bad", x.position(0, what), -2);
        }
    }

    private static void move() {
        CheapProofs x = Checks.gameOf("0>3.0,19>5");
        due("move", x.move(0, 0), 3);
        due("move", x.move(0, 1), 0);
        due("move", x.move(19, 0), 5);
        int[] ranks = {2, 20, MOST};
        for (int rank : ranks) {
            due("no such rank", x.move(0, rank), -5);
        }
        due("bad rank", x.move(0, -1), -2);
        due("bad rank", x.move(0, LEAST), -2);
        int[] positions = {-1, 20, MOST, LEAST};
        for (int p : positions) {
            due("move unknown", x.move(p, 0), -1);
            due("move unknown before bad", x.move(p, -1), -1);
        }
    }

    private static void treeIsLeft() {
        CheapProofs x = Checks.gameOf("0>1");
        x.begin(0);
        x.setPosition(5, 1, 0);
        due("no tree after setPosition", x.count(1), 0);
        x.begin(0);
        x.guess(5, 2, 2);
        due("no tree after guess", x.count(1), 0);
        x.begin(0);
        x.addMove(5, 5);
        due("no tree after addMove", x.count(1), 0);
        x.begin(0);
        x.removeMove(5, 5);
        due("no tree after removeMove", x.count(1), 0);
    }

    private static void treeStays() {
        CheapProofs x = Checks.gameOf("0>1");
        x.begin(0);
        int recorded = x.count(9);
        x.setPosition(5, 0, 0);
        x.setPosition(5, 0, 3);
        x.setPosition(20, 0, 1);
        x.guess(5, 1, 1);
        x.guess(5, 1, 0);
        x.guess(-1, 2, 2);
        x.addMove(0, 1);
        x.addMove(0, 20);
        x.removeMove(0, 2);
        x.removeMove(20, 0);
        due("tree stays", x.count(1), 1);
        due("nothing is recorded", x.count(9), recorded);
    }
}
