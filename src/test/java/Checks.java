/** What all tests of the project use: counted checks, and short ways to common boards. */
final class Checks {
    static final int INVALID = -1001;
    static final int NOT_POSSIBLE = -1002;
    static final int LIMIT = -1003;
    static final int NOT_FOUND = -1004;

    private static int checked = 0;
    private static int wrong = 0;

    private Checks() {
    }

    static void due(String what, long got, long want) {
        checked++;
        if (got != want) {
            wrong++;
            System.out.println(what + ": answered " + got + ", due is " + want);
        }
    }

    static void end(String name) {
        System.out.println(name + ": " + checked + " checks, " + wrong + " wrong");
        if (wrong != 0 || checked == 0) {
            System.exit(1);
        }
    }

    static void type(TurnedBoards board, String text) {
        for (int index = 0; index < text.length(); index++) {
            board.type(text.charAt(index));
        }
    }

    /** Reads the text on the board; the text is emptied before and after. */
    static int read(TurnedBoards board, String text) {
        board.clearText();
        type(board, text);
        int places = board.read();
        board.clearText();
        return places;
    }

    /** A board with the letters 0, 1, .. drawn as these signs. */
    static TurnedBoards drawn(int... signs) {
        TurnedBoards board = new TurnedBoards();
        for (int letter = 0; letter < signs.length; letter++) {
            board.letter(letter, signs[letter]);
        }
        return board;
    }

    /** A sign told by its five rows, the first column at the left, '#' for dark. */
    static int rows(String... rows) {
        int sign = 0;
        for (int row = 0; row < 5; row++) {
            for (int column = 0; column < 3; column++) {
                if (rows[row].charAt(column) == '#') {
                    sign |= 1 << 3 * row + column;
                }
            }
        }
        return sign;
    }
}
