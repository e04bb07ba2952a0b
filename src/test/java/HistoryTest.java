/** Promises 20 to 22: the snapshot, undo, and what they hold. */
public final class HistoryTest {
    public static void main(String[] args) {
        promise20Keep();
        promise21Restore();
        promise21RestoresEverything();
        promise22Undo();
        promise22OldestIsDropped();
        promise22EveryChangeIsRecorded();
        promise22WhatIsNoChange();
        promise22UndoesEverything();
        Checks.end("HistoryTest");
    }

    private static TurnedBoards board() {
        TurnedBoards board = Checks.drawn(0, 7, 28672);
        Checks.read(board, "abc/cba");
        return board;
    }

    /** Changes everything that a state holds; the changes are more than a history holds. */
    private static void changeEverything(TurnedBoards board) {
        board.letter(9, 73);
        Checks.read(board, "aj/ja");
        board.sign(0, 511);
        board.gust(99);
        board.pass(1);
        board.set(0, 6);
        board.set(1, 5);
        board.oil(55);
    }

    private static final int[] COUNTS = {0, 1, 2, 3, 4, 5, 6, 7, 20, 21};

    /** What is told of a board, without its text, snapshot and history. */
    private static int[] told(TurnedBoards board) {
        int[] told = new int[200];
        int next = 0;
        for (int what : COUNTS) {
            told[next++] = board.count(what);
        }
        for (int letter = 0; letter < 10; letter++) {
            told[next++] = board.letterOf(letter, 0);
            told[next++] = board.letterOf(letter, 5);
        }
        for (int place = 0; place < 8; place++) {
            told[next++] = board.placeOf(place, 0);
            told[next++] = board.placeOf(place, 1);
            told[next++] = board.placeOf(place, 4);
            told[next++] = board.placeOf(place, 5);
        }
        return told;
    }

    private static void same(String what, int[] one, int[] other) {
        for (int index = 0; index < one.length; index++) {
            Checks.due(what + " [" + index + "]", other[index], one[index]);
        }
    }

    private static void promise20Keep() {
        Checks.due("20: no places", new TurnedBoards().keep(), 0);
        TurnedBoards board = board();
        int states = board.count(8);
        Checks.due("20: places", board.keep(), 3);
        Checks.due("20: there is one", board.count(10), 1);
        Checks.due("20: is no change", board.count(8), states);
        Checks.read(board, "a/a");
        Checks.due("20: in place of the other", board.keep(), 1);
        Checks.read(board, "ab/ba");
        Checks.due("20: the later one", board.restore(), 1);
    }

    private static void promise21Restore() {
        TurnedBoards board = board();
        Checks.due("21: none", board.restore(), Checks.NOT_POSSIBLE);
        Checks.due("21: none is no change", board.count(8), 4);
        board.keep();
        board.undo();
        board.undo();
        Checks.type(board, "xy");
        Checks.due("21: places", board.restore(), 3);
        Checks.due("21: is a change", board.count(8), 3);
        Checks.due("21: the text stays", board.count(9), 2);
        Checks.due("21: stays", board.count(10), 1);
        board.sign(0, 99);
        Checks.due("21: again", board.restore(), 3);
        Checks.due("21: the snapshot is not drawn on", board.placeOf(0, 0), 0);
        Checks.due("21: undone", board.undo(), 4 - 1);
        Checks.due("21: undone", board.placeOf(0, 0), 99);
        Checks.due("21: stays, when undone", board.count(10), 1);
        board.undo();
        board.undo();
        Checks.due("21: before the first one", board.count(0), 0);
        Checks.due("21: stays still", board.restore(), 3);
    }

    private static void promise21RestoresEverything() {
        TurnedBoards board = board();
        board.sign(1, 7);
        board.sign(2, 28672);
        int[] before = told(board);
        board.keep();
        changeEverything(board);
        board.restore();
        same("21: restored", before, told(board));
    }

    private static void promise22Undo() {
        TurnedBoards board = new TurnedBoards();
        Checks.due("22: none", board.undo(), Checks.NOT_POSSIBLE);
        board.letter(0, 1);
        board.letter(0, 2);
        board.letter(0, 3);
        Checks.due("22: two left", board.undo(), 2);
        Checks.due("22: as it was", board.letterOf(0, 0), 2);
        Checks.due("22: one left", board.undo(), 1);
        Checks.due("22: as it was", board.letterOf(0, 0), 1);
        Checks.due("22: none left", board.undo(), 0);
        Checks.due("22: not drawn", board.letterOf(0, 0), Checks.NOT_FOUND);
        Checks.due("22: no more", board.undo(), Checks.NOT_POSSIBLE);
        Checks.type(board, "ab");
        board.letter(0, 1);
        Checks.type(board, "c");
        board.keep();
        board.undo();
        Checks.due("22: the text stays", board.count(9), 3);
        Checks.due("22: the snapshot stays", board.count(10), 1);
        board.restore();
        Checks.due("22: and what it holds", board.letterOf(0, 0), 1);
    }

    private static void promise22OldestIsDropped() {
        TurnedBoards board = new TurnedBoards();
        for (int stiffness = 31; stiffness <= 40; stiffness++) {
            board.oil(stiffness);
            Checks.due("22: at most 4", board.count(8), Math.min(4, stiffness - 30));
        }
        for (int left = 3; left >= 0; left--) {
            Checks.due("22: left", board.undo(), left);
            Checks.due("22: the latest first", board.count(3), 36 + left);
        }
        Checks.due("22: older ones are gone", board.undo(), Checks.NOT_POSSIBLE);
        board.oil(77);
        board.oil(78);
        board.undo();
        Checks.due("22: used again", board.count(3), 77);
        board.undo();
        Checks.due("22: used again", board.count(3), 36);
    }

    private static void promise22EveryChangeIsRecorded() {
        for (int change = 0; change < 11; change++) {
            TurnedBoards board = board();
            board.keep();
            Checks.type(board, "b/b");
            board.undo();
            board.undo();
            board.restore();
            int before = board.count(8);
            switch (change) {
                case 0 -> board.letter(0, 0);
                case 1 -> board.sign(0, 0);
                case 2 -> board.compose(0);
                case 3 -> board.composeAll();
                case 4 -> board.paint(0);
                case 5 -> board.gust(1);
                case 6 -> board.oil(20);
                case 7 -> board.pass(1);
                case 8 -> board.set(0, 4);
                case 9 -> board.restore();
                default -> board.read();
            }
            Checks.due("22: recorded, change " + change, board.count(8), before + 1);
        }
    }

    private static void promise22WhatIsNoChange() {
        TurnedBoards board = board();
        board.undo();
        int before = board.count(8);
        board.keep();
        board.type('a');
        board.fault(0);
        board.clearText();
        board.quality();
        board.bareIn();
        board.goesWith(0);
        board.composed(0, 0, 0);
        board.read();
        board.pass(0);
        Checks.due("22: no changes", board.count(8), before);
        Checks.due("22: undo is none", board.undo(), before - 1);
    }

    private static void promise22UndoesEverything() {
        TurnedBoards board = board();
        board.sign(1, 7);
        board.sign(2, 28672);
        int[] before = told(board);
        board.keep();
        // the first four changes, and so their undoing, touch letters, words, signs, coats and hinge
        board.letter(9, 73);
        Checks.read(board, "aj/ja");
        board.sign(0, 511);
        board.gust(99);
        for (int left = 3; left >= 0; left--) {
            board.undo();
        }
        same("22: undone", before, told(board));
        board.pass(1);
        board.set(0, 6);
        board.set(1, 5);
        board.oil(55);
        for (int left = 3; left >= 0; left--) {
            board.undo();
        }
        same("22: undone", before, told(board));
    }
}
