/** What all tests of the project use: counted checks, and short ways to common boards. */
final class Checks {
    static final int INVALID = -1001;
    static final int NOT_POSSIBLE = -1002;
    static final int LIMIT = -1003;
    static final int NOT_FOUND = -1004;

    private static int checked = 0;
    private static int wrong = 0;
    private static String about = "";
    private static int checkedBefore = 0;

    private Checks() {
    }

    static void due(String what, long got, long want) {
        checked++;
        if (got != want) {
            wrong++;
            System.out.println(about + what + ": answered " + got + ", due is " + want);
        }
    }

    /** Tells what the next checks are about. */
    static void about(String what) {
        about = what + ": ";
        checkedBefore = checked;
    }

    static void endAbout() {
        due("checks at all", checked > checkedBefore ? 1 : 0, 1);
        about = "";
    }

    static void end(String name) {
        System.out.println(name + ": " + checked + " checks, " + wrong + " wrong");
        if (wrong != 0 || checked == 0) {
            System.exit(1);
        }
    }

    static void type(TurnedBoards board, String text) {
        for (int index = 0; index < text.length(); index++) {
            board.type(text.charAt(index));
        }
    }

    /** Reads the text on the board; the text is emptied before and after. */
    static int read(TurnedBoards board, String text) {
        board.clearText();
        type(board, text);
        int places = board.read();
        board.clearText();
        return places;
    }

    /** A board with the letters 0, 1, .. drawn as these signs. */
    static TurnedBoards drawn(int... signs) {
        TurnedBoards board = new TurnedBoards();
        for (int letter = 0; letter < signs.length; letter++) {
            board.letter(letter, signs[letter]);
        }
        return board;
    }

    /** A board with the words of the text, and the letters 0, 1, .. drawn as these signs. */
    static TurnedBoards hung(String text, int... signs) {
        TurnedBoards board = drawn(signs);
        due("words " + text, read(board, text), text.indexOf('/'));
        return board;
    }

    /** A board with the text typed, and the letters 0, 1, .. drawn as these signs. */
    static TurnedBoards typed(String text, int... signs) {
        TurnedBoards board = drawn(signs);
        type(board, text);
        return board;
    }

    /** A sign told by its five rows, the first column at the left, '#' for dark. */
    static int rows(String... rows) {
        int sign = 0;
        for (int row = 0; row < 5; row++) {
            for (int column = 0; column < 3; column++) {
                if (rows[row].charAt(column) == '#') {
                    sign |= 1 << 3 * row + column;
                }
            }
        }
        return sign;
    }
}
