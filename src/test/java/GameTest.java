/** Promises 2 to 5, 14 and 15: positions, guesses and moves, and what is told of them. */
public final class GameTest {
    private static final Checks CHECKS = new Checks("GameTest");

    private GameTest() {
    }

    private static void due(String call, long got, long want) {
        CHECKS.due(call, got, want);
    }

    public static void main(String[] args) {
        setPosition();
        guess();
        addMove();
        removeMove();
        positionNumbers();
        positionRounds();
        move();
        CHECKS.end();
    }

    private static void setPosition() {
        CheapProofs x = new CheapProofs();
        due("set turn", x.setPosition(19, 1, 0), 0);
        due("turn", x.position(19, 0), 1);
        due("set mark", x.setPosition(19, 1, 2), 0);
        due("set again", x.setPosition(19, 1, 2), -5);
        due("history", x.count(9), 2);
        due("set turn back", x.setPosition(19, 0, 2), 2);
        due("set mark 1", x.setPosition(19, 0, 1), 2);
        due("set mark 0", x.setPosition(19, 0, 0), 1);
        due("mark", x.position(19, 1), 0);
        due("as at first", x.setPosition(0, 0, 0), -5);
        due("other position", x.position(18, 0), 0);
    }

    private static void guess() {
        CheapProofs x = new CheapProofs();
        due("guess", x.guess(0, 9, 1), 1);
        due("guess again", x.guess(0, 9, 1), -5);
        due("guess one of both", x.guess(0, 9, 9), 9);
        due("guess other of both", x.guess(0, 2, 9), 9);
        due("prove", x.position(0, 2), 2);
        due("disprove", x.position(0, 3), 9);
        due("history", x.count(9), 3);
        due("as at first", x.guess(1, 1, 1), -5);
    }

    private static void addMove() {
        CheapProofs x = new CheapProofs();
        due("add", x.addMove(0, 19), 1);
        due("add again", x.addMove(0, 19), -5);
        due("add to itself", x.addMove(0, 0), 2);
        due("add back", x.addMove(19, 0), 1);
        due("moves in all", x.count(0), 3);
        due("history", x.count(9), 3);
        for (int to = 1; to < 19; to++) {
            due("add to all", x.addMove(0, to), to + 2);
        }
        due("order 0", x.move(0, 0), 19);
        due("order 1", x.move(0, 1), 0);
        due("order 2", x.move(0, 2), 1);
        due("order 19", x.move(0, 19), 18);
        due("order of the next position", x.move(1, 0), -5);
    }

    private static void removeMove() {
        CheapProofs x = Checks.gameOf("5>1.2.3.4");
        due("remove the second", x.removeMove(5, 2), 3);
        due("remove it again", x.removeMove(5, 2), -1);
        due("rank 0", x.move(5, 0), 1);
        due("rank 1", x.move(5, 1), 3);
        due("rank 2", x.move(5, 2), 4);
        due("rank 3", x.move(5, 3), -5);
        due("add it behind", x.addMove(5, 2), 4);
        due("rank 3", x.move(5, 3), 2);
        due("remove the first", x.removeMove(5, 1), 3);
        due("remove the last", x.removeMove(5, 2), 2);
        due("remove", x.removeMove(5, 3), 1);
        due("remove the only one", x.removeMove(5, 4), 0);
        due("moves in all", x.count(0), 0);
        due("end again", x.position(5, 5), 1);
    }

    private static void positionNumbers() {
        CheapProofs x = Checks.gameOf("7>8.9,7d,8w,9l,9>7,10>10");
        x.guess(7, 3, 4);
        int[] wants = {1, 0, 3, 4, 2, 0, 0, -5};
        for (int what = 0; what < wants.length; what++) {
            due("position 7, " + what, x.position(7, what), wants[what]);
        }
        due("a marked one is an end", x.position(8, 5), 1);
        due("a marked one with moves is an end", x.position(9, 5), 1);
        due("its moves are told", x.position(9, 4), 1);
        due("a loop is no end", x.position(10, 5), 0);
        due("without moves it is an end", x.position(11, 5), 1);
        due("won end", x.position(8, 6), 1);
        due("won end in round 0", x.position(8, 7), 0);
        due("lost end", x.position(9, 6), 0);
        due("lost end has no round", x.position(9, 7), -5);
        due("end without mark", x.position(11, 6), 0);
    }

    private static void positionRounds() {
        // 0 has a long way by 1, 2 and a short one by 4; 5 is the defender's and waits for the longer way.
        CheapProofs x = Checks.gameOf("0>1.4,1>2,2>3,3w,4>3,5d,5>2.0,6>6.7,7d,7>6.3,8>7");
        int[] rounds = {2, 2, 1, 0, 1, 3, -5, -5, -5};
        for (int p = 0; p < rounds.length; p++) {
            due("round of " + p, x.position(p, 7), rounds[p]);
            due("wins " + p, x.position(p, 6), rounds[p] < 0 ? 0 : 1);
        }
        due("positions won", x.count(8), 6);
        x.setPosition(7, 0, 0);
        due("round of 7", x.position(7, 7), 1);
        due("round of 6", x.position(6, 7), 2);
        due("round of 8", x.position(8, 7), 2);
    }

    private static void move() {
        CheapProofs x = Checks.gameOf("0>3.0,19>5");
        due("move", x.move(0, 0), 3);
        due("move", x.move(0, 1), 0);
        due("move", x.move(19, 0), 5);
        due("no such rank", x.move(0, 2), -5);
    }
}
