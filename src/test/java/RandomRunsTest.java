/** All promises: runs of 512 calls, each answer compared with that of the model. The runs are the same each time. */
public final class RandomRunsTest {
    private static final int RUNS = 600;
    private static final int CALLS = 512;
    private static final int[] EDGES = {-1, 20, 2, 3, 8, 10, 11, 60, 100, 101, 200, Integer.MAX_VALUE,
        Integer.MIN_VALUE};
    private static final String SIGNS = "0123456789>.,wld x";
    private static final Checks CHECKS = new Checks("RandomRunsTest");
    /** How often each answer of interest came, so that the runs do not miss what they are for. */
    private static int proofs = 0;
    private static int fullTrees = 0;
    private static int fullGames = 0;
    private static int texts = 0;

    private long seed;
    private final int positions;
    private final CheapProofs real = new CheapProofs();
    private final Model model = new Model();
    private final int run;

    private RandomRunsTest(int run) {
        this.run = run;
        this.seed = run * 7919L + 17;
        this.positions = 3 + run % 18;
    }

    public static void main(String[] args) {
        for (int run = 0; run < RUNS && CHECKS.wrong() < 20; run++) {
            new RandomRunsTest(run).play();
        }
        System.out.println(proofs + " proofs, " + fullTrees + " full trees, " + fullGames + " full games, " + texts
            + " texts read");
        CHECKS.due("proofs", proofs > 100 ? 1 : 0, 1);
        CHECKS.due("full trees", fullTrees > 20 ? 1 : 0, 1);
        CHECKS.due("full games", fullGames > 20 ? 1 : 0, 1);
        CHECKS.due("texts", texts > 100 ? 1 : 0, 1);
        CHECKS.end();
    }

    private int below(int bound) {
        seed = seed * 6364136223846793005L + 1442695040888963407L;
        return (int) ((seed >>> 33) % bound);
    }

    /** Mostly a number below the bound, now and then one at an edge. */
    private int number(int bound) {
        return below(40) == 0 ? EDGES[below(EDGES.length)] : below(bound);
    }

    private int place() {
        return number(positions);
    }

    private void same(String call, int got, int want) {
        CHECKS.due("run " + run + ": " + call, got, want);
    }

    private void play() {
        int call = 0;
        int denseness = below(3);
        while (call < CALLS) {
            int kind = below(100);
            if (kind < 4) {
                int goal = 1 + below(denseness == 0 ? 15 : denseness == 1 ? 40 : 70);
                for (int i = 0; i < goal && call < CALLS; i++, call++) {
                    addMove();
                }
            } else if (kind < 7) {
                call = text(call);
            } else if (kind < 30) {
                change(below(12));
                call++;
            } else if (kind < 36) {
                begin();
                call++;
            } else if (kind < 58) {
                open();
                call++;
            } else {
                tell(below(7));
                call++;
            }
        }
        audit();
    }

    private void addMove() {
        int from = place();
        int to = place();
        int got = real.addMove(from, to);
        fullGames += got == -3 ? 1 : 0;
        same("addMove(" + from + ", " + to + ")", got, model.addMove(from, to));
    }

    private void begin() {
        int p = place();
        same("begin(" + p + ")", real.begin(p), model.begin(p));
    }

    private void open() {
        int times = below(3) == 0 ? number(101) : 1 + below(3);
        int got = real.open(times);
        fullTrees += got == -5 && real.count(4) == 0 ? 1 : 0;
        proofs += got > 0 && real.count(4) > 0 ? 1 : 0;
        same("open(" + times + ")", got, model.open(times));
    }

    private int text(int call) {
        String text = below(6) == 0 ? noise() : game();
        int made = call;
        if (below(5) != 0) {
            same("clearText()", real.clearText(), model.clearText());
            made++;
        }
        for (int i = 0; i < text.length() && made < CALLS - 1; i++, made++) {
            same("type(" + text.charAt(i) + ")", real.type(text.charAt(i)), model.type(text.charAt(i)));
        }
        int got = real.readGame();
        texts += got >= 0 ? 1 : 0;
        same("readGame() of " + text, got, model.readGame());
        return made + 1;
    }

    private String noise() {
        StringBuilder s = new StringBuilder();
        int length = below(12);
        for (int i = 0; i < length; i++) {
            s.append(SIGNS.charAt(below(SIGNS.length())));
        }
        return s.toString();
    }

    private String game() {
        StringBuilder s = new StringBuilder();
        int entries = 1 + below(9);
        for (int i = 0; i < entries; i++) {
            s.append(i == 0 ? "" : ",").append(below(positions));
            if (below(2) == 0) {
                s.append("wld".charAt(below(3)));
                continue;
            }
            s.append('>').append(below(positions));
            for (int more = below(5); more > 0; more--) {
                s.append('.').append(below(positions));
            }
        }
        if (below(5) == 0) {
            s.setCharAt(below(s.length()), SIGNS.charAt(below(SIGNS.length())));
        }
        return s.toString();
    }

    private void change(int kind) {
        int a = place();
        int b = place();
        int c = number(3);
        switch (kind) {
            case 0 -> {
                int turn = number(2);
                int mark = below(3) == 0 ? c : 0;
                same("setPosition(" + a + ", " + turn + ", " + mark + ")", real.setPosition(a, turn, mark),
                    model.setPosition(a, turn, mark));
            }
            case 1, 2 -> {
                int prove = 1 + number(9);
                int disprove = 1 + number(9);
                same("guess(" + a + ", " + prove + ", " + disprove + ")", real.guess(a, prove, disprove),
                    model.guess(a, prove, disprove));
            }
            case 3 -> {
                int to = below(4) == 0 ? b : real.move(a, c);
                same("removeMove(" + a + ", " + to + ")", real.removeMove(a, to), model.removeMove(a, to));
            }
            case 4, 5, 6 -> same("undo()", real.undo(), model.undo());
            case 7 -> same("keep()", real.keep(), model.keep());
            case 8 -> same("restore()", real.restore(), model.restore());
            case 9 -> addMove();
            default -> {
                same("begin(" + a + ")", real.begin(a), model.begin(a));
                same("open(100)", real.open(100), model.open(100));
            }
        }
    }

    private void tell(int kind) {
        switch (kind) {
            case 0 -> {
                int p = place();
                int what = number(8);
                same("position(" + p + ", " + what + ")", real.position(p, what), model.position(p, what));
            }
            case 1 -> {
                int p = place();
                int rank = number(6);
                same("move(" + p + ", " + rank + ")", real.move(p, rank), model.move(p, rank));
            }
            case 2 -> {
                int node = number(Math.max(1, real.count(1) + 1));
                int what = number(8);
                same("node(" + node + ", " + what + ")", real.node(node, what), model.node(node, what));
            }
            case 3 -> {
                int depth = number(8);
                same("way(" + depth + ")", real.way(depth), model.way(depth));
            }
            case 4 -> {
                int answers = below(2) == 0 ? number(50) : below(Integer.MAX_VALUE);
                int what = number(3);
                same("playOut(" + answers + ", " + what + ")", real.playOut(answers, what),
                    model.playOut(answers, what));
            }
            case 5 -> same("proofSize()", real.proofSize(), model.proofSize());
            default -> {
                int what = number(11);
                same("count(" + what + ")", real.count(what), model.count(what));
            }
        }
    }

    /** Compares all that is told of the last state. */
    private void audit() {
        for (int what = -1; what <= 11; what++) {
            same("at the end: count(" + what + ")", real.count(what), model.count(what));
        }
        for (int p = 0; p < 20; p++) {
            for (int what = 0; what < 8; what++) {
                same("at the end: position(" + p + ", " + what + ")", real.position(p, what), model.position(p, what));
            }
            for (int rank = 0; rank < 21; rank++) {
                same("at the end: move(" + p + ", " + rank + ")", real.move(p, rank), model.move(p, rank));
            }
        }
        for (int node = 0; node < 201; node++) {
            for (int what = 0; what < 8; what++) {
                same("at the end: node(" + node + ", " + what + ")", real.node(node, what), model.node(node, what));
            }
        }
        for (int depth = 0; depth < 22; depth++) {
            same("at the end: way(" + depth + ")", real.way(depth), model.way(depth));
        }
        same("at the end: proofSize()", real.proofSize(), model.proofSize());
    }
}
