/** Objects as they stand after some calls; the tests of refused calls start from them. */
final class Scenes {
    private Scenes() {
    }

    static CheapProofs fresh() {
        return new CheapProofs();
    }

    /** A game, a tree that is not decided, a snapshot of another state, three states, and a text without a fault. */
    static CheapProofs played() {
        CheapProofs x = Checks.gameOf("0>1.2.0,1d,1>3.0,2>3,3w,4l");
        x.guess(1, 2, 3);
        x.keep();
        x.guess(19, 9, 9);
        x.undo();
        x.begin(0);
        x.open(1);
        x.undo();
        x.open(1);
        Checks.typeAll(x, "5>6.7,5d");
        return x;
    }

    /** The same with a text that has a fault at its index 8. */
    static CheapProofs faulty() {
        CheapProofs x = played();
        x.type('d');
        return x;
    }

    /** The same with the tree that is proved. */
    static CheapProofs proved() {
        CheapProofs x = played();
        x.open(100);
        return x;
    }

    /** The same with a tree of a lost end. */
    static CheapProofs disproved() {
        CheapProofs x = played();
        x.begin(4);
        return x;
    }

    /** A game of 60 moves: each of 0, 1 and 2 leads to all positions. */
    static CheapProofs sixtyMoves() {
        CheapProofs x = new CheapProofs();
        for (int i = 0; i < 60; i++) {
            x.addMove(i / 20, i % 20);
        }
        return x;
    }

    /** The same with a tree that is not decided. */
    static CheapProofs sixtyMovesAndTree() {
        CheapProofs x = sixtyMoves();
        x.begin(0);
        x.keep();
        return x;
    }

    /** A new object with a text of 60 characters, which is a game. */
    static CheapProofs sixtySigns() {
        CheapProofs x = new CheapProofs();
        Checks.typeAll(x, "0w," + "1w,".repeat(18) + "19w");
        return x;
    }

    /** Four states, each with a move more from 0; the game has five moves. */
    static CheapProofs fourStates() {
        CheapProofs x = new CheapProofs();
        for (int to = 0; to < 5; to++) {
            x.addMove(0, to);
        }
        return x;
    }

    /** Six positions with nine moves each; 18 leads to 19, and 19 to the first of them; 17 leads there and to 16. */
    private static CheapProofs nines() {
        CheapProofs x = new CheapProofs();
        for (int from = 0; from < 6; from++) {
            for (int to = 0; to < 9; to++) {
                x.addMove(from, to);
            }
        }
        x.addMove(18, 19);
        x.addMove(19, 0);
        x.addMove(17, 0);
        x.addMove(17, 16);
        x.addMove(16, 15);
        x.guess(16, 9, 9);
        return x;
    }

    /**
     * A tree that is opened until the next leaf, which has nine moves, has no room: 2 + 22 * 9 is 200 nodes from 19;
     * 1 + 22 * 9 is 199 from 0; 3 + 21 * 9 is 192 from 18, and from 17, where a leaf of one move would have room.
     */
    static CheapProofs fullFrom(int root) {
        CheapProofs x = nines();
        x.begin(root);
        x.open(100);
        return x;
    }

    /** Layers of positions, each of which leads to all of the next layer; those of the last are ends. No tree yet. */
    static CheapProofs layers(int... sizes) {
        CheapProofs x = new CheapProofs();
        int first = 0;
        for (int layer = 1; layer < sizes.length; layer++) {
            int next = first + sizes[layer - 1];
            for (int from = first; from < next; from++) {
                for (int to = next; to < next + sizes[layer]; to++) {
                    x.addMove(from, to);
                }
            }
            first = next;
        }
        return x;
    }

    /** A ring of all positions, each with one move to the next one. */
    static CheapProofs ring() {
        CheapProofs x = new CheapProofs();
        for (int p = 0; p < 20; p++) {
            x.addMove(p, (p + 1) % 20);
        }
        return x;
    }
}
