/** Promises 23 to 26: the text, its faults, and reading it. */
public final class TextTest {
    public static void main(String[] args) {
        promise23Type();
        promise24ClearText();
        promise25Fault();
        promise25NotDrawn();
        promise25Errors();
        promise26Read();
        promise26WhatStays();
        promise26Fault();
        Checks.end("TextTest");
    }

    private static TurnedBoards board() {
        return Checks.drawn(0, 7, 28672);
    }

    private static void promise23Type() {
        TurnedBoards board = board();
        Checks.due("23: lowest", board.type(32), 1);
        Checks.due("23: highest", board.type(126), 2);
        Checks.due("23: below", board.type(31), Checks.INVALID);
        Checks.due("23: above", board.type(127), Checks.INVALID);
        Checks.due("23: far below", board.type(Integer.MIN_VALUE), Checks.INVALID);
        Checks.due("23: wraps to a letter, but is far above", board.type(65536 + 97), Checks.INVALID);
        Checks.due("23: length", board.count(9), 2);
        for (int length = 3; length <= 30; length++) {
            Checks.due("23: length", board.type('a'), length);
        }
        Checks.due("23: full", board.type('a'), Checks.LIMIT);
        Checks.due("23: out of range rather than full", board.type(31), Checks.INVALID);
        Checks.due("23: length", board.count(9), 30);
        Checks.due("23: no changes", board.count(8), 3);
    }

    private static void promise24ClearText() {
        TurnedBoards board = board();
        Checks.due("24: empty", board.clearText(), 0);
        Checks.type(board, "abcde");
        Checks.due("24: length", board.clearText(), 5);
        Checks.due("24: empty then", board.clearText(), 0);
        Checks.due("24: empty then", board.count(9), 0);
        Checks.type(board, "a/a");
        Checks.due("24: nothing is left of the old one", board.fault(0), Checks.NOT_FOUND);
        board.clearText();
        board.type('a');
        Checks.due("24: nothing is left of the old one", board.fault(0), 1);
        Checks.due("24: no changes", board.count(8), 3);
    }

    private static void fault(String text, int place, int reason) {
        TurnedBoards board = board();
        Checks.type(board, text);
        Checks.due("25: place in " + text, board.fault(0), place);
        Checks.due("25: reason in " + text, board.fault(1), reason);
        Checks.due("26: no reading of " + text, board.read(), reason < 0 ? text.indexOf('/') : Checks.NOT_POSSIBLE);
    }

    private static void promise25Fault() {
        fault("", 0, 1);
        fault("/", 0, 1);
        fault("/a", 0, 1);
        fault(" a/a", 0, 1);
        fault("A/a", 0, 1);
        fault("k/a", 0, 1);
        fault("`/a", 0, 1);
        fault("a", 1, 1);
        fault("ak/aa", 1, 1);
        fault("a b/ab", 1, 1);
        fault("a/", 2, 1);
        fault("ab/", 3, 1);
        fault("ab/a", 4, 1);
        fault("ab//", 3, 1);
        fault("ab/a/", 4, 1);
        fault("ab/a-", 4, 1);
        fault("ab/abc", 5, 1);
        fault("ab/ab/", 5, 1);
        fault("ab/ab ", 5, 1);
        fault("ab/abz", 5, 1);
        fault("a/aaaaaaaaaa", 3, 1);
        fault("aaaaaaaa", 8, 1);
        fault("aaaaaaaa-", 8, 1);
        fault("aaaaaaaaa", 8, 2);
        fault("aaaaaaaaaaaa", 8, 2);
        fault("aaaaaaaaa/", 8, 2);
        fault("aaaaaaaaz", 8, 1);
        fault("aaaaaaaa/aaaaaaaa", Checks.NOT_FOUND, Checks.NOT_FOUND);
        fault("aaaaaaaa/aaaaaaa", 16, 1);
        fault("aaaaaaaa/aaaaaaaaa", 17, 1);
        fault("c/a", Checks.NOT_FOUND, Checks.NOT_FOUND);
        fault("abc/cab", Checks.NOT_FOUND, Checks.NOT_FOUND);
    }

    private static void promise25NotDrawn() {
        fault("j/a", 0, 3);
        fault("a/j", 2, 3);
        fault("ad/eb", 1, 3);
        fault("abc/abj", 6, 3);
        fault("jjj/jj", 6, 1);
        fault("jjjjjjjjj", 8, 2);
        fault("jz", 1, 1);
        TurnedBoards board = board();
        Checks.type(board, "d/a");
        Checks.due("25: not drawn", board.fault(1), 3);
        board.letter(3, 5);
        Checks.due("25: drawn now", board.fault(1), Checks.NOT_FOUND);
        board.undo();
        Checks.due("25: drawn no more", board.fault(0), 0);
    }

    private static void promise25Errors() {
        TurnedBoards board = board();
        Checks.due("25: what below", board.fault(-1), Checks.INVALID);
        Checks.due("25: what above", board.fault(2), Checks.INVALID);
        Checks.type(board, "a/a");
        Checks.due("25: what above, no fault", board.fault(2), Checks.INVALID);
        Checks.due("25: changes nothing", board.count(8), 3);
    }

    private static void promise26Read() {
        TurnedBoards board = board();
        Checks.due("26: places", Checks.read(board, "abc/cca"), 3);
        int[][] words = {{0, 1, 2}, {2, 2, 0}};
        for (int word = 0; word < 2; word++) {
            for (int index = 0; index < 3; index++) {
                Checks.due("26: letter", board.word(word, 10 + index), words[word][index]);
            }
        }
        Checks.due("26: more places", Checks.read(board, "abcabcab/bacbacba"), 8);
        Checks.due("26: last letter", board.word(0, 17), 1);
        Checks.due("26: last letter", board.word(1, 17), 0);
        Checks.due("26: fewer places", Checks.read(board, "b/a"), 1);
        Checks.due("26: places", board.count(0), 1);
        Checks.due("26: no place more", board.placeOf(1, 0), Checks.INVALID);
    }

    private static void promise26WhatStays() {
        TurnedBoards board = board();
        Checks.read(board, "ab/ba");
        board.set(0, 9);
        board.sign(1, 77);
        board.gust(99);
        board.pass(3);
        Checks.type(board, "abb/bba");
        Checks.due("26: places", board.read(), 3);
        Checks.due("26: the text stays", board.count(9), 7);
        Checks.due("26: again", board.read(), 3);
        for (int place = 0; place < 3; place++) {
            Checks.due("26: no sign", board.placeOf(place, 0), 0);
            Checks.due("26: no coats", board.placeOf(place, 1), 0);
        }
        Checks.due("26: upright", board.count(2), 0);
        Checks.due("26: the stiffness stays", board.count(3), 19);
        Checks.due("26: the day stays", board.count(4), 3);
        Checks.due("26: the turns stay", board.count(5), 1);
        Checks.due("26: the settings stay", board.count(20), 9);
        Checks.due("26: the letters stay", board.count(1), 7);
        board.undo();
        board.undo();
        Checks.due("26: undone", board.placeOf(1, 0), 77);
        Checks.due("26: undone", board.count(2), 1);
        Checks.due("26: undone", board.word(1, 11), 0);
    }

    private static void promise26Fault() {
        TurnedBoards board = board();
        Checks.read(board, "ab/ba");
        int states = board.count(8);
        Checks.due("26: empty text", board.read(), Checks.NOT_POSSIBLE);
        Checks.due("26: not drawn", Checks.read(board, "abj/abj"), Checks.NOT_POSSIBLE);
        Checks.due("26: faults change nothing", board.count(0), 2);
        Checks.due("26: faults are no changes", board.count(8), states);
    }
}
