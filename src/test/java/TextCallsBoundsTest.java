/** Promises 20 to 26: a test of each sentence that names a boundary case. */
public final class TextCallsBoundsTest {
    private static final int ROW = 7;
    private static final int FIFTH_ROW = 28672;
    private static final int[] FAR_OUT = {Integer.MIN_VALUE, Integer.MIN_VALUE + 97, -97, 256 + 97, 65536 + 97, Integer.MAX_VALUE};

    public static void main(String[] args) throws ReflectiveOperationException {
        Sentences.testAll(TextCallsBoundsTest.class);
    }

    @Sentence("Takes a snapshot of the state, in place of the one that was.")
    static void promise20InPlace() {
        TurnedBoards board = new TurnedBoards();
        board.oil(31);
        board.keep();
        board.oil(32);
        board.keep();
        board.oil(33);
        Checks.due("there is one", board.count(10), 1);
        board.restore();
        Checks.due("the later one", board.count(3), 32);
        board.oil(34);
        board.restore();
        Checks.due("the later one again", board.count(3), 32);
    }

    @Sentence("Returns how many places there are.")
    static void promise20Places() {
        TurnedBoards board = Checks.drawn(ROW);
        Checks.due("none", board.keep(), 0);
        for (int places = 1; places <= 8; places++) {
            String word = "aaaaaaaa".substring(0, places);
            Checks.read(board, word + "/" + word);
            Checks.due("places", board.keep(), places);
        }
        int states = board.count(8);
        board.undo();
        board.keep();
        Checks.due("is no change", board.count(8), states - 1);
    }

    @Sentence("Restores the state of the snapshot, which stays.")
    static void promise21Stays() {
        TurnedBoards board = Checks.hung("ab/ba", ROW, FIFTH_ROW);
        board.sign(1, 73);
        board.keep();
        for (int time = 0; time < 6; time++) {
            board.sign(1, time);
            board.oil(50 + time);
            board.gust(99);
            board.pass(1);
            Checks.due("places", board.restore(), 2);
            Checks.due("sign", board.placeOf(1, 0), 73);
            Checks.due("stiffness", board.count(3), 20);
            Checks.due("upright", board.count(2), 0);
            Checks.due("day", board.count(4), 0);
            Checks.due("turns", board.count(5), 0);
            Checks.due("stays", board.count(10), 1);
        }
        board.undo();
        Checks.due("stays, when it is undone", board.count(10), 1);
        Checks.due("undone", board.count(3), 54);
    }

    @Sentence("Returns how many places there are then; NOT_POSSIBLE if there is none.")
    static void promise21None() {
        TurnedBoards board = Checks.drawn(ROW);
        Checks.due("none", board.restore(), Checks.NOT_POSSIBLE);
        board.keep();
        Checks.due("one without places", board.restore(), 0);
        Checks.read(board, "aaaaaaaa/aaaaaaaa");
        Checks.due("fewer places then", board.restore(), 0);
        Checks.due("no place any more", board.placeOf(0, 0), Checks.INVALID);
        board.undo();
        Checks.due("all places again", board.placeOf(7, 0), 0);
        board.keep();
        Checks.read(board, "a/a");
        Checks.due("more places then", board.restore(), 8);
        Checks.due("of another object, none", new TurnedBoards().restore(), Checks.NOT_POSSIBLE);
    }

    @Sentence("Restores the latest state of the history, which is removed from it.")
    static void promise22Latest() {
        TurnedBoards board = new TurnedBoards();
        for (int stiffness = 31; stiffness <= 35; stiffness++) {
            board.oil(stiffness);
        }
        board.undo();
        Checks.due("the latest", board.count(3), 34);
        board.oil(36);
        board.oil(37);
        Checks.due("the oldest one is dropped again", board.count(8), 4);
        for (int due : new int[] {36, 34, 33, 32}) {
            board.undo();
            Checks.due("not the removed one", board.count(3), due);
        }
        Checks.due("none left", board.count(8), 0);
        board.undo();
        Checks.due("an undo without states changes nothing", board.count(3), 32);
    }

    @Sentence("Returns the number of states that are left in the history; NOT_POSSIBLE if it is empty.")
    static void promise22Left() {
        TurnedBoards board = new TurnedBoards();
        Checks.due("empty at first", board.undo(), Checks.NOT_POSSIBLE);
        board.gust(1);
        Checks.due("the only one", board.undo(), 0);
        Checks.due("empty", board.undo(), Checks.NOT_POSSIBLE);
        for (int change = 0; change < 5; change++) {
            board.gust(1);
        }
        for (int left = 3; left >= 0; left--) {
            Checks.due("left", board.undo(), left);
        }
        Checks.due("empty again", board.undo(), Checks.NOT_POSSIBLE);
        board.keep();
        board.type('a');
        Checks.due("no change since", board.undo(), Checks.NOT_POSSIBLE);
    }

    @Sentence("character: 32 to 126")
    static void promise23Character() {
        TurnedBoards board = new TurnedBoards();
        Checks.due("lowest", board.type(32), 1);
        Checks.due("highest", board.type(126), 2);
        Checks.due("below", board.type(31), Checks.INVALID);
        Checks.due("above", board.type(127), Checks.INVALID);
        for (int far : FAR_OUT) {
            Checks.due("far out", board.type(far), Checks.INVALID);
        }
        Checks.due("the length", board.count(9), 2);
    }

    @Sentence("Returns the length of the text; INVALID_ARGUMENT if character is out of range; LIMIT_REACHED if it has 30 characters.")
    static void promise23Full() {
        TurnedBoards board = new TurnedBoards();
        for (int length = 1; length <= 30; length++) {
            Checks.due("length", board.type('a'), length);
        }
        Checks.due("full", board.type('a'), Checks.LIMIT);
        Checks.due("full still", board.type('a'), Checks.LIMIT);
        Checks.due("full", board.count(9), 30);
        Checks.due("out of range", board.type(127), Checks.INVALID);
        board.clearText();
        Checks.due("emptied", board.type('a'), 1);
    }

    @Sentence("Returns the length it had.")
    static void promise24Length() {
        TurnedBoards board = Checks.drawn(ROW);
        Checks.due("empty", board.clearText(), 0);
        Checks.due("empty still", board.clearText(), 0);
        board.type('a');
        Checks.due("one", board.clearText(), 1);
        Checks.type(board, "a".repeat(31));
        Checks.due("full", board.clearText(), 30);
        Checks.due("empty then", board.count(9), 0);
        Checks.due("faulty then", board.fault(0), 0);
        Checks.due("no change", board.count(8), 1);
    }

    @Sentence("what: 0: its place; 1: its reason")
    static void promise25PlaceAndReason() {
        String[] texts = {"", "a/aa", "aaaaaaaaa", "b/a", "aaaaaaaa/aaaaaaab"};
        int[][] faults = {{0, 1}, {3, 1}, {8, 2}, {0, 3}, {16, 3}};
        for (int index = 0; index < texts.length; index++) {
            TurnedBoards board = Checks.typed(texts[index], ROW);
            Checks.due("place in " + texts[index], board.fault(0), faults[index][0]);
            Checks.due("reason in " + texts[index], board.fault(1), faults[index][1]);
            Checks.due("no third number", board.fault(2), Checks.INVALID);
            Checks.due("the place once more", board.fault(0), faults[index][0]);
        }
    }

    @Sentence("Returns that; INVALID_ARGUMENT if what is out of range; NOT_FOUND if the text has no fault.")
    static void promise25Errors() {
        TurnedBoards board = Checks.typed("aj", ROW);
        for (int time = 0; time < 2; time++) {
            Checks.due("below", board.fault(-1), Checks.INVALID);
            Checks.due("above", board.fault(2), Checks.INVALID);
            for (int far : FAR_OUT) {
                Checks.due("far out", board.fault(far), Checks.INVALID);
            }
            board.clearText();
            Checks.type(board, "a/a");
        }
        Checks.due("no fault, no place", board.fault(0), Checks.NOT_FOUND);
        Checks.due("no fault, no reason", board.fault(1), Checks.NOT_FOUND);
    }

    @Sentence("Makes the words of the text the wanted ones, on a board with as many places, with signs of 0 and no coats, "
        + "that hangs upright; the text stays.")
    static void promise26Board() {
        TurnedBoards board = Checks.hung("abababab/aaaabbbb", ROW, FIFTH_ROW);
        board.set(0, 9);
        for (int place = 0; place < 8; place++) {
            board.sign(place, 511);
        }
        board.gust(99);
        Checks.type(board, "ba/bb");
        for (int time = 0; time < 2; time++) {
            Checks.due("fewer places", board.read(), 2);
            for (int place = 0; place < 2; place++) {
                Checks.due("sign", board.placeOf(place, 0), 0);
                Checks.due("coats", board.placeOf(place, 1), 0);
            }
            Checks.due("no third place", board.placeOf(2, 0), Checks.INVALID);
            Checks.due("upright", board.count(2), 0);
            Checks.due("the text stays", board.count(9), 5);
            Checks.due("the text stays faultless", board.fault(0), Checks.NOT_FOUND);
            Checks.due("last letter upright", board.word(0, 11), 0);
            Checks.due("last letter turned", board.word(1, 11), 1);
            board.sign(1, 32767);
            board.gust(99);
        }
        Checks.due("more places again", Checks.read(board, "abababab/aaaabbbb"), 8);
        for (int place = 0; place < 8; place++) {
            Checks.due("sign", board.placeOf(place, 0), 0);
            Checks.due("coats", board.placeOf(place, 1), 0);
        }
    }

    @Sentence("Makes the words of the text the wanted ones")
    static void promise26WhatStays() {
        TurnedBoards board = Checks.hung("a/a", ROW);
        board.set(0, 9);
        board.set(1, 0);
        board.oil(2);
        board.gust(2);
        board.pass(20);
        Checks.read(board, "aa/aa");
        int[][] counts = {{1, 1}, {2, 0}, {3, 1}, {4, 20}, {5, 1}, {8, 4}, {10, 0}, {20, 9}, {21, 0}};
        for (int[] count : counts) {
            Checks.due("count " + count[0], board.count(count[0]), count[1]);
        }
    }

    @Sentence("Returns how many places there are; NOT_POSSIBLE if the text has a fault.")
    static void promise26Fault() {
        TurnedBoards board = Checks.drawn(ROW);
        String[] faulty = {"", "a", "/", "a/", "a/aa", "aa/a", "aaaaaaaaa", "aaaaaaaaa/aaaaaaaaa", "b/a", "a/b", "a/a ", "A/a"};
        for (String text : faulty) {
            Checks.due("fault in " + text, Checks.read(board, text), Checks.NOT_POSSIBLE);
            Checks.due("no places by " + text, board.count(0), 0);
        }
        Checks.due("no change", board.count(8), 1);
        for (int places = 8; places >= 1; places--) {
            String word = "aaaaaaaa".substring(0, places);
            Checks.due("places", Checks.read(board, word + "/" + word), places);
        }
    }
}
