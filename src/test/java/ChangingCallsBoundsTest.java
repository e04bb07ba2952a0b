/** Promises 1 to 10: a test of each sentence that names a boundary case. */
public final class ChangingCallsBoundsTest {
    private static final int ROW = 7;
    private static final int FIFTH_ROW = 28672;
    private static final int[] FAR_OUT = {Integer.MIN_VALUE, Integer.MIN_VALUE + 1, -32768, Integer.MAX_VALUE, 65536};

    public static void main(String[] args) throws ReflectiveOperationException {
        Sentences.testAll(ChangingCallsBoundsTest.class);
    }

    @Sentence("TurnedBoards(): Creates a board without places, and no drawn letter.")
    static void promise1Empty() {
        TurnedBoards board = new TurnedBoards();
        Checks.due("places", board.count(0), 0);
        Checks.due("letters", board.count(1), 0);
        for (int what : new int[] {2, 4, 5, 6, 7, 8, 9, 10}) {
            Checks.due("count " + what, board.count(what), 0);
        }
        for (int letter = 0; letter < 10; letter++) {
            Checks.due("not drawn", board.letterOf(letter, 0), Checks.NOT_FOUND);
            Checks.due("not wanted", board.letterOf(letter, 5), 0);
        }
        Checks.due("no place to put a sign on", board.sign(0, 0), Checks.INVALID);
        Checks.due("nothing to compose", board.composeAll(), Checks.NOT_POSSIBLE);
        Checks.due("nothing to undo", board.undo(), Checks.NOT_POSSIBLE);
        Checks.due("nothing to restore", board.restore(), Checks.NOT_POSSIBLE);
        Checks.due("nothing to read", board.read(), Checks.NOT_POSSIBLE);
    }

    @Sentence("letter: 0 to 9")
    static void promise2Letter() {
        TurnedBoards board = new TurnedBoards();
        Checks.due("lowest", board.letter(0, 1), -1);
        Checks.due("highest", board.letter(9, 2), -1);
        Checks.due("below", board.letter(-1, 3), Checks.INVALID);
        Checks.due("above", board.letter(10, 3), Checks.INVALID);
        for (int far : FAR_OUT) {
            Checks.due("far out", board.letter(far, 3), Checks.INVALID);
        }
    }

    @Sentence("sign: 0 to 32767")
    static void promise2Sign() {
        TurnedBoards board = new TurnedBoards();
        Checks.due("lowest", board.letter(0, 0), -1);
        Checks.due("highest", board.letter(1, 32767), -1);
        Checks.due("below", board.letter(2, -1), Checks.INVALID);
        Checks.due("above", board.letter(2, 32768), Checks.INVALID);
        for (int far : FAR_OUT) {
            Checks.due("far out", board.letter(2, far), Checks.INVALID);
        }
        Checks.due("drawn ones", board.count(1), 3);
    }

    @Sentence("Returns the sign it had, -1 if it was not drawn; INVALID_ARGUMENT if an argument is out of range")
    static void promise2Returns() {
        TurnedBoards board = new TurnedBoards();
        Checks.due("not drawn", board.letter(4, 0), -1);
        Checks.due("drawn as 0", board.letter(4, 32767), 0);
        Checks.due("drawn as 32767", board.letter(4, 1), 32767);
        Checks.due("undone", board.undo(), 2);
        Checks.due("undone", board.letter(4, 5), 32767);
        for (int step = 0; step < 3; step++) {
            board.undo();
        }
        Checks.due("not drawn again", board.letter(4, 9), -1);
    }

    @Sentence("NOT_POSSIBLE if another letter is drawn as this sign.")
    static void promise2Taken() {
        TurnedBoards board = Checks.drawn(0, 32767);
        Checks.due("taken by a lower one", board.letter(9, 0), Checks.NOT_POSSIBLE);
        Checks.due("taken by a higher one", board.letter(0, 32767), Checks.NOT_POSSIBLE);
        Checks.due("taken by itself", board.letter(1, 32767), 32767);
        Checks.due("drawn otherwise", board.letter(1, 1), 32767);
        Checks.due("taken no more", board.letter(9, 32767), -1);
        Checks.due("taken now", board.letter(1, 32767), Checks.NOT_POSSIBLE);
        board.undo();
        Checks.due("taken no more, as it is undone", board.letter(8, 32767), -1);
        Checks.due("one as the other turned", board.letter(7, 16384), -1);
    }

    @Sentence("place: number of the place")
    static void promise3Place() {
        for (int places = 1; places <= 8; places++) {
            String word = "aaaaaaaa".substring(0, places);
            TurnedBoards board = Checks.hung(word + "/" + word, ROW);
            Checks.due("first", board.sign(0, 5), 0);
            Checks.due("last", board.sign(places - 1, 6), places == 1 ? 5 : 0);
            Checks.due("below", board.sign(-1, 5), Checks.INVALID);
            Checks.due("above", board.sign(places, 5), Checks.INVALID);
            for (int far : FAR_OUT) {
                Checks.due("far out", board.sign(far, 5), Checks.INVALID);
            }
        }
        Checks.due("no places", new TurnedBoards().sign(0, 5), Checks.INVALID);
    }

    @Sentence("Returns the sign it had; INVALID_ARGUMENT if an argument is out of range.")
    static void promise3Sign() {
        TurnedBoards board = Checks.hung("a/a", ROW);
        Checks.due("0 at first", board.sign(0, 32767), 0);
        Checks.due("highest", board.sign(0, 0), 32767);
        Checks.due("lowest", board.sign(0, 1), 0);
        Checks.due("below", board.sign(0, -1), Checks.INVALID);
        Checks.due("above", board.sign(0, 32768), Checks.INVALID);
        for (int far : FAR_OUT) {
            Checks.due("far out", board.sign(0, far), Checks.INVALID);
        }
        Checks.due("as before", board.placeOf(0, 0), 1);
        Checks.due("a letter's sign may stand", board.sign(0, ROW), 1);
    }

    @Sentence("Puts a sign on a place, with the coats of setting 0.")
    static void promise3Coats() {
        TurnedBoards board = Checks.hung("aa/aa", ROW);
        board.sign(0, 5);
        Checks.due("4 at first", board.placeOf(0, 1), 4);
        board.set(0, 9);
        Checks.due("not before a sign is put", board.placeOf(0, 1), 4);
        board.sign(0, 5);
        Checks.due("most", board.placeOf(0, 1), 9);
        board.set(0, 1);
        board.sign(0, 5);
        Checks.due("fewest, though it had more", board.placeOf(0, 1), 1);
        Checks.due("the other place has none", board.placeOf(1, 1), 0);
    }

    @Sentence("place: number of the place")
    static void promise4Place() {
        for (int places = 1; places <= 8; places++) {
            String word = "aaaaaaaa".substring(0, places);
            TurnedBoards board = Checks.hung(word + "/" + word, 2 * ROW);
            Checks.due("first", board.compose(0), board.composed(0, 0, 0));
            Checks.due("last", board.compose(places - 1), board.composed(0, 0, 0));
            Checks.due("below", board.compose(-1), Checks.INVALID);
            Checks.due("above", board.compose(places), Checks.INVALID);
            for (int far : FAR_OUT) {
                Checks.due("far out", board.compose(far), Checks.INVALID);
            }
        }
        Checks.due("no places", new TurnedBoards().compose(0), Checks.INVALID);
    }

    @Sentence("Returns the sign then; INVALID_ARGUMENT; NOT_POSSIBLE if there is no composed sign.")
    static void promise4Compose() {
        TurnedBoards board = Checks.hung("ab/ab", ROW, FIFTH_ROW);
        Checks.due("first", board.compose(0), ROW);
        Checks.due("last", board.compose(1), FIFTH_ROW);
        Checks.due("it stands there", board.placeOf(1, 0), FIFTH_ROW);
        board = Checks.hung("ab/aa", 0, 32767);
        Checks.due("a blank sign is one, too", board.compose(0), 0);
        Checks.due("none", board.compose(1), Checks.NOT_POSSIBLE);
        Checks.due("none, no coats", board.placeOf(1, 1), 0);
    }

    @Sentence("Composes all places for which there is a composed sign; the others stay.")
    static void promise5All() {
        TurnedBoards board = Checks.hung("aba/baa", 0, 32767);
        board.sign(0, 1);
        board.sign(1, 2);
        board.sign(2, 3);
        board.paint(1);
        board.set(0, 7);
        Checks.due("the first of three", board.composeAll(), 1);
        Checks.due("composed", board.placeOf(0, 0), 0);
        Checks.due("its coats", board.placeOf(0, 1), 7);
        Checks.due("stays", board.placeOf(1, 0), 2);
        Checks.due("stays, coats", board.placeOf(1, 1), 5);
        Checks.due("stays", board.placeOf(2, 0), 3);
        Checks.due("stays, coats", board.placeOf(2, 1), 4);
        board = Checks.hung("abbbbbbb/bbbbbbba", 0, 32767);
        Checks.due("all eight", board.composeAll(), 8);
        Checks.due("all eight have coats", board.count(7), 8);
        Checks.due("said", board.word(0, 0) + board.word(1, 0), 2);
        board = Checks.hung("aaaaaaaa/bbbbbbbb", 0, 32767);
        Checks.due("none of eight", board.composeAll(), 0);
        Checks.due("none of eight has coats", board.count(7), 0);
        board = Checks.hung("ba/aa", 0, 32767);
        Checks.due("the last alone", board.composeAll(), 1);
        Checks.due("the last alone", board.placeOf(1, 1), 4);
    }

    @Sentence("Returns how many; NOT_POSSIBLE if there are no places.")
    static void promise5NoPlaces() {
        Checks.due("new", new TurnedBoards().composeAll(), Checks.NOT_POSSIBLE);
        TurnedBoards board = Checks.drawn(ROW);
        Checks.due("letters, no places", board.composeAll(), Checks.NOT_POSSIBLE);
        board.keep();
        Checks.read(board, "a/a");
        Checks.due("one place", board.composeAll(), 1);
        board.restore();
        Checks.due("no places again", board.composeAll(), Checks.NOT_POSSIBLE);
    }

    @Sentence("Returns how many coats it has then; INVALID_ARGUMENT; LIMIT_REACHED if it has 9.")
    static void promise6Paint() {
        TurnedBoards board = Checks.hung("aa/aa", ROW);
        for (int coats = 1; coats <= 9; coats++) {
            Checks.due("coats", board.paint(1), coats);
        }
        Checks.due("it has 9", board.paint(1), Checks.LIMIT);
        Checks.due("it has 9 still", board.placeOf(1, 1), 9);
        Checks.due("the other has none", board.paint(0), 1);
        board.set(0, 9);
        board.sign(0, ROW);
        Checks.due("it has 9 at once", board.paint(0), Checks.LIMIT);
        board.pass(1);
        Checks.due("it has 8", board.paint(0), 9);
    }

    @Sentence("place: number of the place")
    static void promise6Place() {
        for (int places = 1; places <= 8; places++) {
            String word = "aaaaaaaa".substring(0, places);
            TurnedBoards board = Checks.hung(word + "/" + word, ROW);
            Checks.due("first", board.paint(0), 1);
            Checks.due("last", board.paint(places - 1), places == 1 ? 2 : 1);
            Checks.due("below", board.paint(-1), Checks.INVALID);
            Checks.due("above", board.paint(places), Checks.INVALID);
            for (int far : FAR_OUT) {
                Checks.due("far out", board.paint(far), Checks.INVALID);
            }
            Checks.due("no other coat", board.count(6), 2);
        }
        Checks.due("no places", new TurnedBoards().paint(0), Checks.INVALID);
    }

    @Sentence("force: 1 to 99")
    static void promise7Force() {
        TurnedBoards board = new TurnedBoards();
        Checks.due("lowest", board.gust(1), 0);
        Checks.due("highest", board.gust(99), 1);
        Checks.due("below", board.gust(0), Checks.INVALID);
        Checks.due("above", board.gust(100), Checks.INVALID);
        for (int far : FAR_OUT) {
            Checks.due("far out", board.gust(far), Checks.INVALID);
        }
        Checks.due("turned once", board.count(5), 1);
        Checks.due("stiffness", board.count(3), 19);
    }

    @Sentence("Returns 1 if the board turns by it, otherwise 0; INVALID_ARGUMENT if force is out of range.")
    static void promise7Returns() {
        TurnedBoards board = new TurnedBoards();
        for (int stiffness = 20; stiffness >= 1; stiffness--) {
            Checks.due("just too weak", board.gust(stiffness - 1), stiffness == 1 ? Checks.INVALID : 0);
            Checks.due("just enough", board.gust(stiffness), 1);
            Checks.due("so often it turned", board.count(5), 21 - stiffness);
        }
        Checks.due("the weakest, at the least stiffness", board.gust(1), 1);
        Checks.due("turned without places", board.count(2), 1);
    }

    @Sentence("stiffness: 1 to 99")
    static void promise8Oil() {
        TurnedBoards board = new TurnedBoards();
        Checks.due("what it was at first", board.oil(1), 20);
        Checks.due("lowest", board.oil(99), 1);
        Checks.due("highest", board.oil(50), 99);
        Checks.due("below", board.oil(0), Checks.INVALID);
        Checks.due("above", board.oil(100), Checks.INVALID);
        for (int far : FAR_OUT) {
            Checks.due("far out", board.oil(far), Checks.INVALID);
        }
        Checks.due("as before", board.count(3), 50);
    }

    @Sentence("Returns what it was; INVALID_ARGUMENT if stiffness is out of range.")
    static void promise8Returns() {
        TurnedBoards board = new TurnedBoards();
        Checks.due("what it was at first", board.oil(2), 20);
        board.gust(2);
        Checks.due("after a gust", board.oil(2), 1);
        board.gust(2);
        board.gust(2);
        Checks.due("after two gusts, not below 1", board.oil(99), 1);
        Checks.due("an error", board.oil(100), Checks.INVALID);
        Checks.due("after an error", board.oil(99), 99);
        board.undo();
        board.undo();
        Checks.due("after undo", board.oil(5), 1);
    }

    @Sentence("days: 1 to 20")
    static void promise9Days() {
        TurnedBoards board = new TurnedBoards();
        Checks.due("lowest", board.pass(1), 0);
        Checks.due("highest", board.pass(20), 0);
        Checks.due("below", board.pass(0), Checks.INVALID);
        Checks.due("above", board.pass(21), Checks.INVALID);
        for (int far : FAR_OUT) {
            Checks.due("far out", board.pass(far), Checks.INVALID);
        }
        Checks.due("the day", board.count(4), 21);
    }

    @Sentence("Returns how many coats are lost in them; INVALID_ARGUMENT if days is out of range")
    static void promise9Lost() {
        TurnedBoards board = Checks.hung("aaaaaaaa/aaaaaaaa", ROW);
        Checks.due("no coats", board.pass(20), 0);
        board.set(0, 9);
        for (int place = 0; place < 8; place++) {
            board.sign(place, ROW);
        }
        Checks.due("one of each", board.pass(1), 8);
        Checks.due("all that are left", board.pass(20), 64);
        Checks.due("none", board.pass(20), 0);
        board.set(0, 4);
        board.sign(3, ROW);
        Checks.due("one day fewer than coats", board.pass(3), 3);
        Checks.due("one more day", board.pass(1), 1);
        Checks.due("bare", board.placeOf(3, 1), 0);
    }

    @Sentence("LIMIT_REACHED if the day would be above 9999.")
    static void promise9LastDay() {
        TurnedBoards board = new TurnedBoards();
        for (int call = 0; call < 499; call++) {
            Checks.due("far from the last day", board.pass(20), 0);
        }
        Checks.due("9980", board.count(4), 9980);
        Checks.due("10000", board.pass(20), Checks.LIMIT);
        Checks.due("9980 still", board.count(4), 9980);
        Checks.due("9999", board.pass(19), 0);
        Checks.due("9999", board.count(4), 9999);
        Checks.due("10000", board.pass(1), Checks.LIMIT);
        Checks.due("10019", board.pass(20), Checks.LIMIT);
        board.undo();
        Checks.due("9981", board.pass(1), 0);
        Checks.due("9999", board.pass(18), 0);
    }

    @Sentence("what: 0 or 1")
    static void promise10What() {
        TurnedBoards board = new TurnedBoards();
        Checks.due("0", board.set(0, 5), 4);
        Checks.due("1", board.set(1, 5), 3);
        Checks.due("below", board.set(-1, 5), Checks.INVALID);
        Checks.due("above", board.set(2, 5), Checks.INVALID);
        for (int far : FAR_OUT) {
            Checks.due("far out", board.set(far, 5), Checks.INVALID);
        }
    }

    @Sentence("value: a value in its range")
    static void promise10Value() {
        TurnedBoards board = new TurnedBoards();
        int[][] within = {{0, 1, 4}, {0, 9, 1}, {1, 0, 3}, {1, 9, 0}};
        for (int[] call : within) {
            Checks.due("what it was", board.set(call[0], call[1]), call[2]);
        }
        int[][] outside = {{0, 0}, {0, 10}, {1, -1}, {1, 10}};
        for (int[] call : outside) {
            Checks.due("outside " + call[0], board.set(call[0], call[1]), Checks.INVALID);
        }
        for (int far : FAR_OUT) {
            Checks.due("far out", board.set(0, far), Checks.INVALID);
            Checks.due("far out", board.set(1, far), Checks.INVALID);
        }
        Checks.due("0", board.count(20), 9);
        Checks.due("1", board.count(21), 9);
    }

    @Sentence("Returns what it was; INVALID_ARGUMENT if an argument is out of range.")
    static void promise10Returns() {
        TurnedBoards board = new TurnedBoards();
        Checks.due("0 at first", board.set(0, 9), 4);
        Checks.due("1 at first", board.set(1, 0), 3);
        Checks.due("an error", board.set(0, 0), Checks.INVALID);
        Checks.due("after an error", board.set(0, 1), 9);
        Checks.due("an error", board.set(1, 10), Checks.INVALID);
        Checks.due("after an error", board.set(1, 9), 0);
        board.undo();
        Checks.due("after undo", board.set(1, 9), 0);
        Checks.due("the other one stays", board.set(0, 2), 1);
    }
}
