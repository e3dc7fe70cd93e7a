/** Promises 6, 9 and 10: the text, its faults, and the game that is read from it. */
public final class TextTest {
    private static final Checks CHECKS = new Checks("TextTest");

    private TextTest() {
    }

    private static void due(String call, long got, long want) {
        CHECKS.due(call, got, want);
    }

    public static void main(String[] args) {
        goodTexts();
        faults();
        faultOfEachSign();
        whatIsRead();
        CHECKS.end();
    }

    private static int read(String text) {
        CheapProofs x = new CheapProofs();
        Checks.typeAll(x, text);
        return x.readGame();
    }

    private static void goodTexts() {
        due("0w", read("0w"), 0);
        due("19l", read("19l"), 0);
        due("9d", read("9d"), 0);
        due("0>0", read("0>0"), 1);
        due("0>1.2.19", read("0>1.2.19"), 3);
        due("0>10.1", read("0>10.1"), 2);
        due("0>1.1,0>1", read("0>1.1,0>1"), 1);
        due("10>11,1>0,0w,0l", read("10>11,1>0,0w,0l"), 2);
        due("0>2,0>3,0d,0d", read("0>2,0>3,0d,0d"), 2);
    }

    private static void faults() {
        String[] texts = {"", ",", "w", "x", "0", "00w", "05>1", "20w", "1", "12", "123w", "0>", "0>w", "0>1w",
            "0>1.", "0>1..2", "0>1,", "0>1,,", "0>1.20", "0>1.01", "0>1>2", "0w.1", "0ww", "0w0", "0w,", "0w,x",
            "0 w", " 0w", "0W", "0>1 ", "0>19.191w", "0>-1", "30w", "99w", "0d>1", "/w", ":w", "1/w", "1:w"};
        int[] faults = {0, 0, 0, 0, 1, 1, 1, 1, 1, 2, 2, 2, 2, 3,
            4, 4, 4, 4, 5, 5, 3, 2, 2, 2, 3, 3,
            1, 0, 1, 3, 7, 2, 1, 1, 2, 0, 0, 1, 1};
        for (int i = 0; i < texts.length; i++) {
            due("fault of " + texts[i], read(texts[i]), -100 - faults[i]);
        }
    }

    /** At each place of a text, each sign that is not allowed there is its fault. */
    private static void faultOfEachSign() {
        String[] places = {"", "0", "1", "12", "0>", "0>0", "0>1", "0>12", "0w", "0>1.", "0w,"};
        String[] allowed = {"0123456789", "wld>", "wld>0123456789", "wld>", "0123456789", ".,", ".,0123456789", ".,",
            ",", "0123456789", "0123456789"};
        for (int i = 0; i < places.length; i++) {
            CheapProofs x = new CheapProofs();
            for (char sign = 0; sign < 400; sign++) {
                if (allowed[i].indexOf(sign) < 0) {
                    x.clearText();
                    Checks.typeAll(x, places[i] + sign + "0w");
                    due(places[i] + " and sign " + (int) sign, x.readGame(), -100 - places[i].length());
                }
            }
        }
    }

    private static void whatIsRead() {
        CheapProofs x = new CheapProofs();
        x.addMove(3, 4);
        x.setPosition(3, 1, 1);
        x.setPosition(5, 0, 2);
        x.guess(3, 7, 8);
        Checks.typeAll(x, "1>2.10.1,2w,2l,4l,4w,10d,1>10.3,6>1");
        due("read", x.readGame(), 5);
        due("moves", x.count(0), 5);
        int[] moves = {2, 10, 1, 3, -5};
        for (int rank = 0; rank < moves.length; rank++) {
            due("move " + rank, x.move(1, rank), moves[rank]);
        }
        due("the other one", x.move(6, 0), 1);
        due("old move is gone", x.position(3, 4), 0);
        due("old mark is gone", x.position(3, 1), 0);
        due("old turn is gone", x.position(3, 0), 0);
        due("old mark is gone", x.position(5, 1), 0);
        due("guess stays", x.position(3, 2), 7);
        due("guess stays", x.position(3, 3), 8);
        due("later mark", x.position(2, 1), 2);
        due("later mark", x.position(4, 1), 1);
        due("turn", x.position(10, 0), 1);
        due("turn of others", x.position(1, 0), 0);
        x.clearText();
        Checks.typeAll(x, "1>4");
        due("read another", x.readGame(), 1);
        due("the turn of the former text is gone", x.position(10, 0), 0);
        due("the mark of the former text is gone", x.position(4, 1), 0);
        due("the moves of the former text are gone", x.position(6, 4), 0);
        due("move", x.move(1, 0), 4);
    }
}
