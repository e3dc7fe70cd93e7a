/** All that an object tells, as a text, to see whether two of them are in the same state. */
final class Told {
    private Told() {
    }

    /** What is told of the state and of the length of the text, without changing it; not how many states there are. */
    static String whole(CheapProofs x) {
        StringBuilder s = new StringBuilder();
        for (int what = 0; what <= 10; what++) {
            s.append(what == 9 ? 0 : x.count(what)).append(' ');
        }
        for (int p = 0; p < 20; p++) {
            tellPosition(s, x, p);
        }
        for (int node = 0; node <= x.count(1); node++) {
            for (int what = 0; what < 8; what++) {
                s.append(x.node(node, what)).append(' ');
            }
        }
        for (int depth = 0; depth <= 21; depth++) {
            s.append(x.way(depth)).append(' ');
        }
        for (int answers = 0; answers < 8; answers++) {
            s.append(x.playOut(answers, 0)).append(' ').append(x.playOut(answers, 2)).append(' ');
        }
        return s.append(x.proofSize()).append('\n').toString();
    }

    private static void tellPosition(StringBuilder s, CheapProofs x, int p) {
        for (int what = 0; what < 8; what++) {
            s.append(x.position(p, what)).append(' ');
        }
        for (int rank = 0; rank <= x.position(p, 4); rank++) {
            s.append(x.move(p, rank)).append(' ');
        }
    }

    /** What is told of the state, then of all states of the history, of the snapshot, and of the text when it is read. */
    static String drained(CheapProofs x) {
        StringBuilder s = new StringBuilder(whole(x));
        for (int i = 0; i < 5; i++) {
            s.append(x.undo()).append(' ').append(whole(x));
        }
        s.append(x.restore()).append(' ').append(whole(x));
        s.append(x.readGame()).append(' ').append(whole(x));
        return s.append(x.clearText()).toString();
    }
}
