/** Compares answers with those that are due, and ends a test. */
final class Checks {
    private final String name;
    private int made = 0;
    private int wrong = 0;

    Checks(String name) {
        this.name = name;
    }

    void due(String call, long got, long want) {
        made++;
        if (got != want) {
            wrong++;
            System.out.println(name + ": " + call + " answered " + got + ", due is " + want);
        }
    }

    void same(String call, String got, String want) {
        due(call, got.equals(want) ? 1 : 0, 1);
    }

    int wrong() {
        return wrong;
    }

    /** Ends with exit code 1 if an answer was wrong. */
    void end() {
        System.out.println(name + ": " + made + " answers, " + wrong + " wrong");
        if (wrong != 0) {
            System.exit(1);
        }
    }

    static void typeAll(CheapProofs x, String text) {
        for (int i = 0; i < text.length(); i++) {
            x.type(text.charAt(i));
        }
    }

    /** A new object with the game of the text, which is cleared then; one state is recorded. */
    static CheapProofs gameOf(String text) {
        CheapProofs x = new CheapProofs();
        typeAll(x, text);
        x.readGame();
        x.clearText();
        return x;
    }
}
