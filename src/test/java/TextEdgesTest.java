/** Promises 6, 9 and 10: the boundary cases of the text and of the game that is read from it. */
public final class TextEdgesTest extends Cases {
    public static void main(String[] args) throws ReflectiveOperationException {
        new TextEdgesTest().runAll();
    }

    private static CheapProofs typed(String text) {
        CheapProofs x = Scenes.played();
        x.clearText();
        Checks.typeAll(x, text);
        return x;
    }

    private void fault(String text, int index) {
        refused(text, () -> typed(text), CheapProofs::readGame, -100 - index);
    }

    private void good(String text, int moves) {
        due(text, typed(text).readGame(), moves);
    }

    // ---- promise 6: readGame

    /** "the length of the text if it ends too early (the empty text does)" */
    void emptyText() {
        fault("", 0);
        refused("of a new object", Scenes::fresh, CheapProofs::readGame, -100);
    }

    /** "the index, from 0, of the first character that is not allowed at its place": the first one of all */
    void faultOfTheFirstCharacter() {
        String[] texts = {",", ".", ">", "w", "l", "d", " ", "x", "-1w", "/w", ":w"};
        for (String text : texts) {
            fault(text, 0);
        }
    }

    /** "of the first character": the last one of a text */
    void faultOfTheLastCharacter() {
        fault("0>1.2,3wx", 8);
        fault("0>1.2,3w.", 8);
        fault("0>1 ", 3);
    }

    /** "of the first character": of two faults the earlier one, a text that ends too early too */
    void earlierOneOfTwoFaults() {
        fault("0ww,20", 2);
        fault("0>x,1>", 2);
    }

    /** "if it ends too early": behind a position */
    void endsBehindAPosition() {
        fault("0", 1);
        fault("19", 2);
        fault("0w,5", 4);
    }

    /** "if it ends too early": behind ">" */
    void endsBehindTheArrow() {
        fault("0>", 2);
        fault("19>", 3);
    }

    /** "if it ends too early": behind "." */
    void endsBehindAPoint() {
        fault("0>1.", 4);
        fault("0>1.10.", 7);
    }

    /** "one or more entries with ',' between two": none behind the last, none ahead of the first, none empty */
    void entriesAreNotEmpty() {
        fault("0w,", 3);
        fault("0>1,", 4);
        fault(",0w", 0);
        fault("0w,,1w", 3);
    }

    /** "one or more positions with '.' between two": none is too few */
    void targetsAreNotEmpty() {
        fault("0>,1w", 2);
        fault("0>.1", 2);
        fault("0>1..2", 4);
    }

    /** "one or more": one is enough */
    void oneEntryWithOneTarget() {
        good("0>0", 1);
        good("0w", 0);
        good("19>19", 1);
    }

    /** "a position and 'w' [..], 'l' [..] or 'd'": one of them, of small letters */
    void oneLetterAnEntry() {
        fault("0wl", 2);
        fault("0dd", 2);
        fault("0W", 1);
        fault("0w>1", 2);
        fault("0>1w", 3);
        fault("0>1>2", 3);
    }

    /** "Positions are 0 to 19": the lowest and the highest one, at both sides of a move and with a letter */
    void lowestAndHighestPosition() {
        good("0>19,19>0,0d,19l", 2);
        CheapProofs x = typed("0>19,19>0,0d,19l");
        x.readGame();
        due("move", x.move(0, 0), 19);
        due("move", x.move(19, 0), 0);
        due("turn", x.position(0, 0), 1);
        due("mark", x.position(19, 1), 2);
    }

    /** "Positions are 0 to 19": 20 and more have a digit too many */
    void positionTooLarge() {
        fault("20w", 1);
        fault("0>20", 3);
        fault("0>1.20", 5);
        fault("99w", 1);
        fault("0>21", 3);
        fault("2147483648w", 1);
    }

    /** "with two digits if they can": a third digit is none of the position */
    void threeDigits() {
        fault("100w", 2);
        fault("0>190", 4);
        fault("0>19.111", 7);
    }

    /** "with two digits if they can": 1 and a digit are one position */
    void twoDigitsIfTheyCan() {
        for (int p = 10; p < 20; p++) {
            CheapProofs x = typed(p + "w");
            due("read " + p, x.readGame(), 0);
            due("mark of " + p, x.position(p, 1), 1);
            due("mark of 1", x.position(1, 1), 0);
        }
    }

    /** "without a zero in front unless it is the single digit 0" */
    void zeroInFront() {
        fault("00w", 1);
        fault("01w", 1);
        fault("0>00", 3);
        fault("0>1.09", 5);
        good("0>0.10", 2);
    }

    /** "an entry for what is so already does nothing": a move keeps its place, and does not count twice */
    void moveTwice() {
        good("0>1.1", 1);
        good("0>1,0>1", 1);
        CheapProofs x = typed("0>2.1.2,0>3.2");
        due("read", x.readGame(), 3);
        int[] targets = {2, 1, 3, -5};
        for (int rank = 0; rank < targets.length; rank++) {
            due("rank " + rank, x.move(0, rank), targets[rank]);
        }
    }

    /** "an entry for what is so already does nothing": the turn of the defender twice is his turn */
    void turnTwice() {
        CheapProofs x = typed("5d,5d");
        due("read", x.readGame(), 0);
        due("turn", x.position(5, 0), 1);
    }

    /** "of two marks of a position the later one counts", the same one twice, and one of three, too */
    void laterMark() {
        String[] texts = {"5w,5l", "5l,5w", "5w,5w", "5l,5l", "5w,5l,5w"};
        int[] marks = {2, 1, 1, 2, 1};
        for (int i = 0; i < texts.length; i++) {
            CheapProofs x = typed(texts[i]);
            due(texts[i], x.readGame(), 0);
            due("mark of " + texts[i], x.position(5, 1), marks[i]);
        }
    }

    /** "in the place of all moves, marks and turns (guesses stay)" */
    void guessesStayAlone() {
        CheapProofs x = typed("9>9");
        due("read", x.readGame(), 1);
        for (int p = 0; p < 20; p++) {
            due("turn of " + p, x.position(p, 0), 0);
            due("mark of " + p, x.position(p, 1), 0);
            due("moves of " + p, x.position(p, 4), p == 9 ? 1 : 0);
        }
        due("guess to prove", x.position(1, 2), 2);
        due("guess to disprove", x.position(1, 3), 3);
    }

    /** "Makes the game that of the text": a game without moves, when there were 60 */
    void noMovesInPlaceOfSixty() {
        CheapProofs x = Scenes.sixtyMoves();
        Checks.typeAll(x, "0w");
        due("read", x.readGame(), 0);
        due("moves", x.count(0), 0);
        due("move", x.move(0, 0), -5);
        due("undo", x.undo(), 3);
        due("moves", x.count(0), 60);
    }

    /** "FULL if there would be more than 60 in the end": the 60 that were do not count */
    void oldMovesDoNotCount() {
        CheapProofs x = Scenes.sixtyMoves();
        Checks.typeAll(x, "19>0.1.2.3");
        due("read", x.readGame(), 4);
        due("moves", x.count(0), 4);
        due("room again", x.addMove(19, 4), 5);
    }

    /** "FULL if there would be more than 60": a move takes two characters, so that no text has so many */
    void mostMovesOfAText() {
        String text = "1>0.1.2.3.4.5.6.7.8.9,2>0.1.2.3.4.5.6.7.8.9,3>0.1.2.3.4.5.6";
        due("characters", text.length(), 59);
        good(text, 27);
        fault(text + "1", 59);
        good(text.substring(0, 58) + "16", 27);
    }

    /** "readGame() always does so, even if nothing is otherwise": no tree, and one state is recorded */
    void readTheSame() {
        CheapProofs x = Checks.gameOf("0>1,1w");
        x.begin(0);
        Checks.typeAll(x, "0>1,1w");
        due("read", x.readGame(), 1);
        due("nodes", x.count(1), 0);
        due("states", x.count(9), 3);
        due("undo", x.undo(), 2);
        due("nodes", x.count(1), 1);
    }

    /** "Each call [..] that is described as an act [..] records the state that was before it" */
    void readIsRecorded() {
        recorded("read", Scenes::sixtySigns, CheapProofs::readGame, 0);
    }

    /** "Makes the game that of the text, which stays" */
    void textStays() {
        CheapProofs x = typed("0>1");
        due("read", x.readGame(), 1);
        due("length", x.count(10), 3);
        x.type('.');
        x.type('2');
        due("read with more", x.readGame(), 2);
    }

    /** "-100 minus the fault of the text if it has one (which is an error)": what stands ahead of it is not done */
    void nothingAheadOfAFaultIsDone() {
        refused("at the end", Scenes::faulty, CheapProofs::readGame, -108);
        fault("5>6,7w,8l,9d,0d,1>2x", 19);
    }

    /** "at most 60 characters": a game of 60, and the fault at the last of them, or behind it */
    void gameOfSixtyCharacters() {
        CheapProofs x = Scenes.sixtySigns();
        due("length", x.count(10), 60);
        due("read", x.readGame(), 0);
        due("mark of the last entry", x.position(19, 1), 1);
        due("mark of the first entry", x.position(0, 1), 1);
        String start = "0w," + "1w,".repeat(18);
        fault(start + "19x", 59);
        fault(start + "19>", 60);
        fault(start + "1w,", 60);
    }

    /** "The fault [..] is the index [..] of the first character": one that was not typed is none */
    void whatHasNoRoomIsNotRead() {
        good("0w," + "1w,".repeat(18) + "19wx", 0);
        due("length", typed("0w,".repeat(25)).count(10), 60);
    }

    /** "character: any character": those that are like an allowed one in their lower bits are not allowed */
    void charactersBeyond255() {
        fault((char) ('0' + 256) + "w", 0);
        fault("0" + (char) ('w' + 256), 1);
        fault("0w" + (char) (',' + 512), 2);
        fault("0w" + (char) 0, 2);
        fault("0w" + (char) 65535, 2);
    }

    // ---- promise 9: type

    /** "Returns the length of the text then": the first character */
    void typeTheFirst() {
        due("type", new CheapProofs().type('x'), 1);
    }

    /** "a text of at most 60 characters": the sixtieth has room */
    void typeTheSixtieth() {
        CheapProofs x = new CheapProofs();
        for (int i = 1; i <= 60; i++) {
            due("type", x.type('0'), i);
            due("length", x.count(10), i);
        }
    }

    /** "FULL if it has 60 characters" */
    void typeTheSixtyFirst() {
        refused("type", Scenes::sixtySigns, x -> x.type('w'), -3);
        refused("type a comma", Scenes::sixtySigns, x -> x.type(','), -3);
        refused("type 0", Scenes::sixtySigns, x -> x.type((char) 0), -3);
    }

    /** "character: any character": the least and the greatest one count too */
    void typeAnyCharacter() {
        CheapProofs x = new CheapProofs();
        int[] signs = {0, 1, 10, 127, 128, 255, 256, 0xD800, 0xDFFF, 65535};
        for (int i = 0; i < signs.length; i++) {
            due("type " + signs[i], x.type((char) signs[i]), i + 1);
        }
        due("length", x.count(10), signs.length);
    }

    /** "FULL if it has 60 characters": there is room again behind clearText() */
    void typeBehindClear() {
        CheapProofs x = Scenes.sixtySigns();
        x.type('x');
        due("clear", x.clearText(), 60);
        due("type", x.type('5'), 1);
        due("type", x.type('w'), 2);
        due("read", x.readGame(), 0);
        due("mark of 5", x.position(5, 1), 1);
        due("mark of 19", x.position(19, 1), 0);
    }

    /** type() is no act: it records nothing, and leaves the tree */
    void typeIsNoAct() {
        CheapProofs x = Scenes.played();
        int states = x.count(9);
        int nodes = x.count(1);
        x.type('x');
        due("states", x.count(9), states);
        due("nodes", x.count(1), nodes);
    }

    // ---- promise 10: clearText

    /** "Returns the length that it had": of an empty text */
    void clearTheEmptyText() {
        refused("clear", Scenes::fresh, CheapProofs::clearText, 0);
    }

    /** "Returns the length that it had": of a text of one, and of 60 characters */
    void clearShortAndLong() {
        CheapProofs x = new CheapProofs();
        x.type('x');
        due("one", x.clearText(), 1);
        due("none then", x.clearText(), 0);
        due("sixty", Scenes.sixtySigns().clearText(), 60);
    }

    /** clearText() is no act: it records nothing, and leaves the tree and the game */
    void clearIsNoAct() {
        CheapProofs x = Scenes.played();
        due("clear", x.clearText(), 8);
        due("length", x.count(10), 0);
        due("states", x.count(9), Scenes.played().count(9));
        due("nodes", x.count(1), Scenes.played().count(1));
        due("moves", x.count(0), 6);
    }
}
