/** Promises 7 to 10 and 19: gusts, oil, days, settings, and in how many days a place is bare. */
public final class HingeTest {
    public static void main(String[] args) {
        promise7Gust();
        promise7Loosening();
        promise8Oil();
        promise9Pass();
        promise9Fading();
        promise9Limit();
        promise10Set();
        promise19BareIn();
        Checks.end("HingeTest");
    }

    private static TurnedBoards board(String text) {
        TurnedBoards board = Checks.drawn(0, 7, 28672);
        Checks.read(board, text);
        return board;
    }

    private static void promise7Gust() {
        TurnedBoards board = new TurnedBoards();
        Checks.due("7: too weak", board.gust(1), 0);
        Checks.due("7: too weak", board.gust(19), 0);
        Checks.due("7: upright", board.count(2), 0);
        Checks.due("7: stiff as before", board.count(3), 20);
        Checks.due("7: not turned is a change, too", board.count(8), 2);
        Checks.due("7: just enough", board.gust(20), 1);
        Checks.due("7: turned", board.count(2), 1);
        Checks.due("7: less stiff", board.count(3), 19);
        Checks.due("7: turns", board.count(5), 1);
        Checks.due("7: back", board.gust(99), 1);
        Checks.due("7: upright", board.count(2), 0);
        Checks.due("7: turns", board.count(5), 2);
        Checks.due("7: force below", board.gust(0), Checks.INVALID);
        Checks.due("7: force above", board.gust(100), Checks.INVALID);
        Checks.due("7: far below", board.gust(Integer.MIN_VALUE), Checks.INVALID);
        Checks.due("7: errors are no changes", board.count(8), 4);
        Checks.due("7: errors leave the hinge", board.count(3), 18);
    }

    private static void promise7Loosening() {
        TurnedBoards board = new TurnedBoards();
        board.oil(3);
        int[] stiffness = {2, 1, 1, 1};
        for (int want : stiffness) {
            Checks.due("7: turns", board.gust(3), 1);
            Checks.due("7: not below 1", board.count(3), want);
        }
        Checks.due("7: the weakest", board.gust(1), 1);
    }

    private static void promise8Oil() {
        TurnedBoards board = new TurnedBoards();
        Checks.due("8: first", board.oil(99), 20);
        Checks.due("8: again", board.oil(1), 99);
        Checks.due("8: stiffness", board.count(3), 1);
        Checks.due("8: below", board.oil(0), Checks.INVALID);
        Checks.due("8: above", board.oil(100), Checks.INVALID);
        Checks.due("8: errors change nothing", board.count(3), 1);
        Checks.due("8: errors are no changes", board.count(8), 2);
        board.oil(99);
        Checks.due("8: too weak now", board.gust(98), 0);
        Checks.due("8: just enough now", board.gust(99), 1);
        Checks.due("8: after loosening", board.oil(50), 98);
    }

    private static void promise9Pass() {
        TurnedBoards board = new TurnedBoards();
        Checks.due("9: no places", board.pass(1), 0);
        Checks.due("9: no places", board.pass(20), 0);
        Checks.due("9: day", board.count(4), 21);
        Checks.due("9: below", board.pass(0), Checks.INVALID);
        Checks.due("9: above", board.pass(21), Checks.INVALID);
        Checks.due("9: far below", board.pass(Integer.MIN_VALUE), Checks.INVALID);
        Checks.due("9: far above", board.pass(Integer.MAX_VALUE), Checks.INVALID);
        Checks.due("9: errors leave the day", board.count(4), 21);
        Checks.due("9: errors are no changes", board.count(8), 2);
    }

    private static void promise9Fading() {
        TurnedBoards board = board("aaa/aaa");
        board.sign(0, Checks.rows("###", "...", "...", "...", "..."));
        board.sign(1, Checks.rows("##.", "...", "...", "###", "###"));
        board.sign(2, Checks.rows("...", "...", "###", "...", "..."));
        board.paint(2);
        Checks.due("9: two fade", board.pass(1), 2);
        Checks.due("9: coats", board.placeOf(0, 1), 3);
        Checks.due("9: too light", board.placeOf(1, 1), 4);
        Checks.due("9: the middle row, too", board.placeOf(2, 1), 4);
        board.gust(99);
        Checks.due("9: turned, others fade", board.pass(1), 2);
        Checks.due("9: its rows are below now", board.placeOf(0, 1), 3);
        Checks.due("9: its rows are above now", board.placeOf(1, 1), 3);
        Checks.due("9: the middle row is in both", board.placeOf(2, 1), 3);
        Checks.due("9: no coats below 0", board.pass(20), 6);
        Checks.due("9: bare", board.placeOf(2, 1), 0);
        Checks.due("9: nothing left to fade", board.pass(5), 0);
        board.set(1, 0);
        Checks.due("9: with 0 all fade", board.pass(2), 2);
        board.set(1, 9);
        board.sign(0, 32767);
        board.sign(1, 32767 ^ 64);
        Checks.due("9: with 9 only the darkest", board.pass(3), 3);
        Checks.due("9: one cell too few, turned", board.placeOf(1, 1), 4);
        board.gust(99);
        board.sign(1, 32767 ^ 256);
        board.sign(2, 32767 ^ 512);
        Checks.due("9: upright the last cell of row 2 counts", board.pass(1), 2);
        Checks.due("9: one cell too few", board.placeOf(1, 1), 4);
        Checks.due("9: row 3 is no upper one", board.placeOf(2, 1), 3);
    }

    private static void promise9Limit() {
        TurnedBoards board = new TurnedBoards();
        for (int call = 0; call < 499; call++) {
            board.pass(20);
        }
        Checks.due("9: day", board.count(4), 9980);
        Checks.due("9: above the last day", board.pass(20), Checks.LIMIT);
        Checks.due("9: out of range rather than above", board.pass(21), Checks.INVALID);
        Checks.due("9: the day stays", board.count(4), 9980);
        Checks.due("9: the last day", board.pass(19), 0);
        Checks.due("9: day", board.count(4), 9999);
        Checks.due("9: no day more", board.pass(1), Checks.LIMIT);
    }

    private static void promise10Set() {
        TurnedBoards board = new TurnedBoards();
        Checks.due("10: coats", board.set(0, 9), 4);
        Checks.due("10: coats", board.set(0, 1), 9);
        Checks.due("10: no coats", board.set(0, 0), Checks.INVALID);
        Checks.due("10: too many", board.set(0, 10), Checks.INVALID);
        Checks.due("10: cells", board.set(1, 9), 3);
        Checks.due("10: cells", board.set(1, 0), 9);
        Checks.due("10: below", board.set(1, -1), Checks.INVALID);
        Checks.due("10: above", board.set(1, 10), Checks.INVALID);
        Checks.due("10: what below", board.set(-1, 3), Checks.INVALID);
        Checks.due("10: what above", board.set(2, 3), Checks.INVALID);
        Checks.due("10: setting 0", board.count(20), 1);
        Checks.due("10: setting 1", board.count(21), 0);
        Checks.due("10: errors are no changes", board.count(8), 4);
    }

    private static void promise19BareIn() {
        Checks.due("19: no places", new TurnedBoards().bareIn(), Checks.NOT_FOUND);
        TurnedBoards board = board("aaa/aaa");
        Checks.due("19: no coats", board.bareIn(), Checks.NOT_FOUND);
        board.sign(0, Checks.rows("...", "...", "...", "...", "###"));
        Checks.due("19: does not fade", board.bareIn(), Checks.NOT_FOUND);
        board.set(0, 9);
        board.sign(1, Checks.rows("###", "...", "...", "...", "..."));
        Checks.due("19: the other one fades", board.bareIn(), 9);
        board.set(0, 7);
        board.sign(2, Checks.rows("...", "###", "...", "...", "..."));
        Checks.due("19: the first of two", board.bareIn(), 7);
        board.pass(7);
        Checks.due("19: the bare one is none", board.bareIn(), 2);
        board.gust(99);
        Checks.due("19: turned", board.bareIn(), 4);
        Checks.due("19: so it is", board.pass(3), 3);
        Checks.due("19: so it is", board.placeOf(0, 1), 1);
        Checks.due("19: one day", board.bareIn(), 1);
        board.set(1, 4);
        Checks.due("19: fades no more", board.bareIn(), Checks.NOT_FOUND);
        board.set(1, 0);
        Checks.due("19: fades again", board.bareIn(), 1);
    }
}
