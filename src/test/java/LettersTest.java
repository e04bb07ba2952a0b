/** Promises 1, 2, 11, 16 and 17: a new object, letters, and what is composed of them. */
public final class LettersTest {
    private static final int L = Checks.rows("#..", "#..", "#..", "#..", "###");
    private static final int L_TURNED = Checks.rows("###", "..#", "..#", "..#", "..#");
    private static final int I = Checks.rows(".#.", ".#.", ".#.", ".#.", ".#.");

    public static void main(String[] args) {
        promise1NewObject();
        promise2Letter();
        promise11LetterOf();
        promise11Ties();
        promise16Composed();
        promise16Errors();
        promise16Ties();
        promise16NotReadAsBoth();
        promise17GoesWith();
        Checks.end("LettersTest");
    }

    private static void promise1NewObject() {
        TurnedBoards board = new TurnedBoards();
        int[] zeros = {0, 1, 2, 4, 5, 6, 7, 8, 9, 10};
        for (int what : zeros) {
            Checks.due("1: count(" + what + ")", board.count(what), 0);
        }
        Checks.due("1: stiffness", board.count(3), 20);
        Checks.due("1: setting 0", board.count(20), 4);
        Checks.due("1: setting 1", board.count(21), 3);
        for (int letter = 0; letter < 10; letter++) {
            Checks.due("1: no sign", board.letterOf(letter, 0), Checks.NOT_FOUND);
        }
        Checks.due("1: no place", board.placeOf(0, 0), Checks.INVALID);
        Checks.due("1: no history", board.undo(), Checks.NOT_POSSIBLE);
        Checks.due("1: no snapshot", board.restore(), Checks.NOT_POSSIBLE);
        Checks.due("1: another object is another board", board.letter(0, 5), -1);
        Checks.due("1: another object is another board", new TurnedBoards().letter(0, 5), -1);
    }

    private static void promise2Letter() {
        TurnedBoards board = new TurnedBoards();
        Checks.due("2: first", board.letter(0, 0), -1);
        Checks.due("2: again", board.letter(0, 32767), 0);
        Checks.due("2: as it was", board.letter(0, 32767), 32767);
        Checks.due("2: taken", board.letter(9, 32767), Checks.NOT_POSSIBLE);
        Checks.due("2: free again", board.letter(9, 0), -1);
        Checks.due("2: letter below", board.letter(-1, 0), Checks.INVALID);
        Checks.due("2: letter above", board.letter(10, 0), Checks.INVALID);
        Checks.due("2: sign below", board.letter(1, -1), Checks.INVALID);
        Checks.due("2: sign above", board.letter(1, 32768), Checks.INVALID);
        Checks.due("2: far out", board.letter(Integer.MAX_VALUE, Integer.MIN_VALUE), Checks.INVALID);
        Checks.due("2: set of drawn ones", board.count(1), 1 | 1 << 9);
        Checks.due("2: errors are no changes", board.count(8), 4);
        board = Checks.drawn(1, 2);
        board.letter(0, 2);
        board.letter(10, 2);
        Checks.due("2: errors are no changes", board.count(8), 2);
        Checks.due("2: errors leave the sign", board.letterOf(0, 0), 1);
    }

    private static void promise11LetterOf() {
        TurnedBoards board = Checks.drawn(L, L_TURNED, I);
        Checks.due("11: sign", board.letterOf(0, 0), L);
        Checks.due("11: turned", board.letterOf(0, 1), L_TURNED);
        Checks.due("11: turned back", board.letterOf(1, 1), L);
        Checks.due("11: the same turned", board.letterOf(2, 1), I);
        Checks.due("11: dark", board.letterOf(0, 2), 7);
        Checks.due("11: dark", board.letterOf(2, 2), 5);
        Checks.due("11: read turned", board.letterOf(0, 3), 1);
        Checks.due("11: read turned", board.letterOf(2, 3), 2);
        Checks.due("11: not wanted", board.letterOf(0, 5), 0);
        Checks.read(board, "aab/aca");
        Checks.due("11: wanted", board.letterOf(0, 5), 4);
        Checks.due("11: wanted", board.letterOf(1, 5), 1);
        Checks.due("11: wanted", board.letterOf(2, 5), 1);
        Checks.due("11: not drawn, not wanted", board.letterOf(9, 5), 0);
        Checks.read(board, "c/c");
        Checks.due("11: wanted no more", board.letterOf(0, 5), 0);
        Checks.due("11: wanted", board.letterOf(2, 5), 2);
        for (int what = 0; what < 5; what++) {
            Checks.due("11: not drawn", board.letterOf(3, what), Checks.NOT_FOUND);
            Checks.due("11: letter below", board.letterOf(-1, what), Checks.INVALID);
            Checks.due("11: letter above", board.letterOf(10, what), Checks.INVALID);
        }
        Checks.due("11: what below", board.letterOf(0, -1), Checks.INVALID);
        Checks.due("11: what above", board.letterOf(0, 6), Checks.INVALID);
        Checks.due("11: what above, not drawn", board.letterOf(3, 6), Checks.INVALID);
    }

    private static void promise11Ties() {
        TurnedBoards board = Checks.drawn(7);
        Checks.due("11: no other", board.letterOf(0, 4), Checks.NOT_FOUND);
        Checks.due("11: itself only", board.letterOf(0, 3), 0);
        Checks.due("11: blank sign", Checks.drawn(0).letterOf(0, 0), 0);
        board = Checks.drawn(0, 3, 1, 2, 16384);
        Checks.due("11: lowest of the nearest", board.letterOf(0, 4), 2);
        Checks.due("11: lowest of the nearest", board.letterOf(1, 4), 2);
        Checks.due("11: nearest", board.letterOf(4, 4), 0);
        Checks.due("11: read turned exactly", board.letterOf(2, 3), 4);
        Checks.due("11: read turned, lowest", board.letterOf(3, 3), 0);
    }

    private static void promise16Composed() {
        TurnedBoards board = Checks.drawn(31599, 29843, 4687);
        Checks.due("16: sign", board.composed(0, 0, 0), 31599);
        Checks.due("16: margin", board.composed(0, 0, 1), 5);
        Checks.due("16: exponent", board.composed(0, 0, 2), 0);
        Checks.due("16: exponent", board.composed(1, 2, 2), 9);
        Checks.due("16: what is told changes nothing", board.count(8), 3);
        board = Checks.drawn(L, L_TURNED);
        Checks.due("16: turned one is the other", board.composed(0, 1, 0), L);
        Checks.due("16: turned one is the other", board.composed(1, 0, 0), L_TURNED);
        Checks.due("16: turned one is the other", board.composed(0, 1, 2), 0);
        board = Checks.drawn(7);
        Checks.due("16: one letter alone, half way each", board.composed(0, 0, 1), 12);
        Checks.due("16: one letter alone, the lowest", board.composed(0, 0, 0), 0);
        Checks.due("16: one letter alone, exponent", board.composed(0, 0, 2), 6);
    }

    private static void promise16Errors() {
        TurnedBoards board = Checks.drawn(31599, 29843);
        int[][] outside = {{-1, 0, 0}, {10, 0, 0}, {0, -1, 0}, {0, 10, 0}, {0, 0, -1}, {0, 0, 3}, {9, 9, 3}};
        for (int[] call : outside) {
            Checks.due("16: out of range", board.composed(call[0], call[1], call[2]), Checks.INVALID);
        }
        for (int what = 0; what < 3; what++) {
            Checks.due("16: not drawn", board.composed(0, 2, what), Checks.NOT_POSSIBLE);
            Checks.due("16: not drawn", board.composed(2, 0, what), Checks.NOT_POSSIBLE);
        }
    }

    private static void promise16Ties() {
        // 4 cells are unlike: two of them each way give 13 and 13, which the blank sign does
        TurnedBoards board = Checks.drawn(3);
        Checks.due("16: exponent", board.composed(0, 0, 2), 4);
        Checks.due("16: lesser margin", board.composed(0, 0, 1), 13);
        Checks.due("16: lowest of the best", board.composed(0, 0, 0), 0);
        // the greater lesser margin beats the lower number
        board = Checks.drawn(1, 2);
        Checks.due("16: best before lowest", board.composed(0, 0, 0), 16385);
        Checks.due("16: best before lowest", board.composed(0, 0, 1), 2);
        Checks.due("16: best before lowest", board.composed(1, 1, 0), 8194);
        // a margin of 0 does for the lower letter, which is read then, and not for the higher one
        board = Checks.drawn(0, 1, 24576);
        Checks.due("16: margin 0, read as the lower one", board.composed(0, 1, 0), 16384);
        Checks.due("16: margin 0, read as the lower one", board.composed(0, 1, 1), 0);
        board = Checks.drawn(24576, 0, 1);
        Checks.due("16: margin 0, read as another", board.composed(1, 2, 0), Checks.NOT_FOUND);
        board = Checks.drawn(0, 1, 128);
        Checks.due("16: margin 0, read as the lower one turned", board.composed(1, 2, 0), 129);
        Checks.due("16: margin 0, read as the lower one turned", board.composed(1, 2, 1), 0);
        board = Checks.drawn(0, 128, 1);
        Checks.due("16: margin 0, read as another turned", board.composed(2, 1, 0), Checks.NOT_FOUND);
    }

    private static void promise16NotReadAsBoth() {
        TurnedBoards board = Checks.drawn(0, 32767, 31, 31744);
        Checks.due("16: none", board.composed(0, 1, 0), Checks.NOT_FOUND);
        Checks.due("16: none", board.composed(0, 1, 1), Checks.NOT_FOUND);
        Checks.due("16: exponent, though there is none", board.composed(0, 1, 2), 15);
    }

    private static void promise17GoesWith() {
        TurnedBoards board = Checks.drawn(L, L_TURNED, I);
        Checks.due("17: turned one", board.goesWith(0), 1);
        Checks.due("17: turned one", board.goesWith(1), 0);
        Checks.due("17: itself", board.goesWith(2), 2);
        Checks.due("17: changes nothing", board.count(8), 3);
        Checks.due("17: not drawn", board.goesWith(3), Checks.NOT_POSSIBLE);
        Checks.due("17: letter below", board.goesWith(-1), Checks.INVALID);
        Checks.due("17: letter above", board.goesWith(10), Checks.INVALID);
        Checks.due("17: alone", Checks.drawn(9).goesWith(0), 0);
        // 73 turned is nearest to 128, but has a lesser margin; of the other three the lowest goes with it
        board = Checks.drawn(6, 73, 5, 128);
        Checks.due("17: margin before distance, the lowest", board.goesWith(0), 0);
        Checks.due("17: margin before distance, the lowest", board.goesWith(2), 0);
        board = Checks.drawn(511, 0, 16384, 24576);
        Checks.due("17: the lowest of four", board.goesWith(1), 0);
        Checks.due("17: the lowest of four", board.goesWith(3), 0);
        // every letter's own sign is read as something when it is turned, so something always goes with it
        board = new TurnedBoards();
        for (int letter = 0; letter < 10; letter++) {
            board.letter(letter, letter * 3277);
        }
        for (int letter = 0; letter < 10; letter++) {
            Checks.due("17: something goes", board.goesWith(letter) >= 0 ? 1 : 0, 1);
        }
    }
}
