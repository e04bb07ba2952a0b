import java.util.function.Supplier;
import java.util.function.ToIntFunction;

/** The document's "Changes and errors": a test of each sentence that names a boundary case. */
public final class ChangesBoundsTest {
    private static final int ROW = 7;
    private static final int FIFTH_ROW = 28672;

    public static void main(String[] args) throws ReflectiveOperationException {
        Sentences.testAll(ChangesBoundsTest.class);
    }

    /** Four letters, two places, one without coats, states in the history with room for more, a snapshot, a text. */
    private static TurnedBoards board() {
        TurnedBoards board = Checks.hung("ab/ba", ROW, FIFTH_ROW, 0, 32767);
        board.set(0, 9);
        board.gust(99);
        board.keep();
        board.sign(0, 511);
        board.oil(30);
        board.undo();
        board.undo();
        board.sign(0, ROW);
        Checks.type(board, "ab/ba");
        return board;
    }

    /** A board for whose place there is no composed sign, with one state in the history. */
    private static TurnedBoards boardWithoutComposed() {
        TurnedBoards board = Checks.hung("c/d", ROW, FIFTH_ROW, 0, 32767);
        board.sign(0, 73);
        board.keep();
        for (int step = 0; step < 4; step++) {
            board.undo();
        }
        board.restore();
        Checks.type(board, "c/d");
        return board;
    }

    private static void dueAlike(String what, TurnedBoards board, TurnedBoards twin, ToIntFunction<TurnedBoards> call) {
        Checks.due(what, call.applyAsInt(board), call.applyAsInt(twin));
    }

    /** Asks everything that is told without a change of both boards. */
    private static void dueAlike(String what, TurnedBoards board, TurnedBoards twin) {
        for (int number = 0; number <= 21; number++) {
            int told = number;
            dueAlike(what + ", count " + number, board, twin, b -> b.count(told));
        }
        for (int letter = 0; letter < 10; letter++) {
            int told = letter;
            dueAlike(what + ", letter " + letter, board, twin, b -> b.letterOf(told, 0));
        }
        for (int place = 0; place < 2; place++) {
            for (int number = 0; number < 8; number++) {
                int told = place;
                int as = number;
                dueAlike(what + ", place " + place + ", " + number, board, twin, b -> b.placeOf(told, as));
            }
        }
        dueAlike(what + ", place of the fault", board, twin, b -> b.fault(0));
        dueAlike(what + ", reason of the fault", board, twin, b -> b.fault(1));
    }

    private static void changesNothing(String what, int error, ToIntFunction<TurnedBoards> call) {
        changesNothing(what, error, ChangesBoundsTest::board, call);
    }

    /** Calls one of two twins with an error; both are alike then, and go on alike back to the oldest state. */
    private static void changesNothing(String what, int error, Supplier<TurnedBoards> made, ToIntFunction<TurnedBoards> call) {
        TurnedBoards board = made.get();
        TurnedBoards twin = made.get();
        Checks.due(what, call.applyAsInt(board), error);
        dueAlike(what, board, twin);
        for (int step = 0; step < 4; step++) {
            dueAlike(what + ", undone", board, twin, TurnedBoards::undo);
            dueAlike(what + ", undone", board, twin, b -> b.count(3));
            dueAlike(what + ", undone", board, twin, b -> b.placeOf(0, 0));
        }
        dueAlike(what + ", restored", board, twin, TurnedBoards::restore);
        dueAlike(what + ", restored", board, twin);
    }

    @Sentence("The changes are the calls of letter, sign, compose, composeAll, paint, gust, pass, oil, set, restore and read "
        + "that return no error.")
    static void eachChangeIsRecorded() {
        String[] names = {"letter", "sign", "compose", "composeAll", "paint", "gust", "pass", "oil", "set", "restore", "read"};
        for (String name : names) {
            TurnedBoards board = board();
            int states = board.count(8);
            Checks.due("room in the history", states < 4 ? 1 : 0, 1);
            switch (name) {
                case "letter" -> board.letter(9, 5);
                case "sign" -> board.sign(1, 5);
                case "compose" -> board.compose(0);
                case "composeAll" -> board.composeAll();
                case "paint" -> board.paint(1);
                case "gust" -> board.gust(99);
                case "pass" -> board.pass(20);
                case "oil" -> board.oil(5);
                case "set" -> board.set(1, 5);
                case "restore" -> board.restore();
                default -> board.read();
            }
            Checks.due(name, board.count(8), states + 1);
            Checks.due(name + " undone", board.undo(), states);
            dueAlike(name + " undone", board, board());
        }
    }

    @Sentence("The changes are the calls of letter, sign, compose, composeAll, paint, gust, pass, oil, set, restore and read "
        + "that return no error.")
    static void aChangeThatAltersNothing() {
        recorded("as it was drawn", b -> b.letter(0, ROW), ROW);
        recorded("the sign that it had", b -> b.sign(0, 73), 73);
        recorded("no place composed", TurnedBoards::composeAll, 0);
        recorded("too weak", b -> b.gust(19), 0);
        recorded("no coat lost", b -> b.pass(1), 0);
        recorded("as stiff as it was", b -> b.oil(20), 20);
        recorded("as it was set", b -> b.set(0, 4), 4);
        recorded("as it was kept", TurnedBoards::restore, 1);
        recorded("the same words", TurnedBoards::read, 1);
    }

    private static void recorded(String what, ToIntFunction<TurnedBoards> call, int due) {
        TurnedBoards board = boardWithoutComposed();
        board.set(1, 9);
        Checks.due("states before", board.count(8), 2);
        Checks.due(what, call.applyAsInt(board), due);
        Checks.due(what + ", recorded", board.count(8), 3);
        Checks.due(what + ", undone", board.undo(), 2);
        Checks.due(what + ", undone", board.count(21), 9);
        Checks.due(what + ", undone", board.placeOf(0, 0), 73);
    }

    @Sentence("A history of at most 4 states is kept: each change records everything before it but the text and the snapshot, "
        + "and if there are 5 states then, the oldest one is dropped.")
    static void atMostFourStates() {
        for (int changes = 0; changes <= 9; changes++) {
            TurnedBoards board = new TurnedBoards();
            for (int change = 1; change <= changes; change++) {
                board.oil(30 + change);
                Checks.due("states", board.count(8), Math.min(change, 4));
            }
            int kept = Math.min(changes, 4);
            for (int left = kept - 1; left >= 0; left--) {
                Checks.due("left of " + changes, board.undo(), left);
                int before = changes - kept + left;
                Checks.due("the latest of " + changes, board.count(3), before == 0 ? 20 : 30 + before);
            }
            Checks.due("no more of " + changes, board.undo(), Checks.NOT_POSSIBLE);
            Checks.due("no more of " + changes, board.count(8), 0);
        }
    }

    @Sentence("each change records everything before it but the text and the snapshot")
    static void textAndSnapshotStay() {
        TurnedBoards board = new TurnedBoards();
        board.letter(0, 1);
        Checks.type(board, "abc");
        board.keep();
        Checks.due("undone", board.undo(), 0);
        Checks.due("the text stays", board.count(9), 3);
        Checks.due("the snapshot stays", board.count(10), 1);
        Checks.due("and what it holds", board.restore(), 0);
        Checks.due("and what it holds", board.letterOf(0, 0), 1);
        board.clearText();
        board.undo();
        Checks.due("an emptied text stays empty", board.count(9), 0);
    }

    @Sentence("If several errors apply to a call, INVALID_ARGUMENT is returned rather than NOT_POSSIBLE")
    static void invalidRatherThanNotPossible() {
        TurnedBoards board = Checks.hung("c/d", ROW, FIFTH_ROW, 0, 32767);
        Checks.due("letter above, sign taken", board.letter(10, ROW), Checks.INVALID);
        Checks.due("letter below, sign taken", board.letter(-1, ROW), Checks.INVALID);
        Checks.due("place above, none composed", board.compose(1), Checks.INVALID);
        Checks.due("no places at all", new TurnedBoards().compose(0), Checks.INVALID);
        Checks.due("first above, other not drawn", board.composed(10, 9, 0), Checks.INVALID);
        Checks.due("other above, first not drawn", board.composed(9, 10, 0), Checks.INVALID);
        Checks.due("first below, other not drawn", board.composed(-1, 9, 0), Checks.INVALID);
        Checks.due("other below, first not drawn", board.composed(9, -1, 0), Checks.INVALID);
        Checks.due("what above, neither drawn", board.composed(8, 9, 3), Checks.INVALID);
        Checks.due("what below, neither drawn", board.composed(8, 9, -1), Checks.INVALID);
        Checks.due("letter above, none drawn", new TurnedBoards().goesWith(10), Checks.INVALID);
        Checks.due("letter below, none drawn", new TurnedBoards().goesWith(-1), Checks.INVALID);
    }

    @Sentence("NOT_POSSIBLE rather than LIMIT_REACHED, and LIMIT_REACHED rather than NOT_FOUND.")
    static void theOtherOrders() {
        TurnedBoards board = Checks.hung("a/a", ROW);
        Checks.due("one not drawn rather than none composed", board.composed(0, 1, 0), Checks.NOT_POSSIBLE);
        Checks.due("one not drawn rather than none composed", board.composed(1, 0, 1), Checks.NOT_POSSIBLE);
        Checks.due("not drawn rather than none goes with it", board.goesWith(1), Checks.NOT_POSSIBLE);
        board.set(0, 9);
        board.sign(0, ROW);
        Checks.due("place above, all places full", board.paint(1), Checks.INVALID);
        Checks.due("place below, all places full", board.paint(-1), Checks.INVALID);
        Checks.type(board, "..............................");
        Checks.due("character below, text full", board.type(31), Checks.INVALID);
        Checks.due("character above, text full", board.type(127), Checks.INVALID);
        Checks.due("letter above, what of one not drawn", board.letterOf(10, 0), Checks.INVALID);
        Checks.due("what above, of one not drawn", board.letterOf(1, 6), Checks.INVALID);
        Checks.due("what below, of one not drawn", board.letterOf(1, -1), Checks.INVALID);
        Checks.due("place above, nothing drawn", new TurnedBoards().placeOf(0, 2), Checks.INVALID);
        Checks.due("reader above, index above", board.reads(2, 1), Checks.INVALID);
        Checks.due("reader below, index above", board.reads(-1, 1), Checks.INVALID);
        board.clearText();
        Checks.type(board, "a/a");
        Checks.due("what above, no fault", board.fault(2), Checks.INVALID);
        Checks.due("what below, no fault", board.fault(-1), Checks.INVALID);
    }

    @Sentence("INVALID_ARGUMENT is returned rather than NOT_POSSIBLE, NOT_POSSIBLE rather than LIMIT_REACHED")
    static void daysOutOfRangeOnTheLastDay() {
        TurnedBoards board = new TurnedBoards();
        for (int call = 0; call < 499; call++) {
            board.pass(20);
        }
        board.pass(19);
        Checks.due("too many days, day above", board.pass(21), Checks.INVALID);
        Checks.due("too many days, day above", board.pass(Integer.MAX_VALUE), Checks.INVALID);
        Checks.due("day above", board.pass(1), Checks.LIMIT);
    }

    @Sentence("A call that returns an error changes nothing.")
    static void invalidChangesNothing() {
        changesNothing("letter below", Checks.INVALID, b -> b.letter(-1, 5));
        changesNothing("letter above", Checks.INVALID, b -> b.letter(10, 5));
        changesNothing("letter, sign below", Checks.INVALID, b -> b.letter(0, -1));
        changesNothing("letter, sign above", Checks.INVALID, b -> b.letter(0, 32768));
        changesNothing("place below", Checks.INVALID, b -> b.sign(-1, 5));
        changesNothing("place above", Checks.INVALID, b -> b.sign(2, 5));
        changesNothing("sign below", Checks.INVALID, b -> b.sign(0, -1));
        changesNothing("sign above", Checks.INVALID, b -> b.sign(0, 32768));
        changesNothing("compose below", Checks.INVALID, b -> b.compose(-1));
        changesNothing("compose above", Checks.INVALID, b -> b.compose(2));
        changesNothing("paint below", Checks.INVALID, b -> b.paint(-1));
        changesNothing("paint above", Checks.INVALID, b -> b.paint(2));
        changesNothing("gust below", Checks.INVALID, b -> b.gust(0));
        changesNothing("gust above", Checks.INVALID, b -> b.gust(100));
        changesNothing("oil below", Checks.INVALID, b -> b.oil(0));
        changesNothing("oil above", Checks.INVALID, b -> b.oil(100));
        changesNothing("pass below", Checks.INVALID, b -> b.pass(0));
        changesNothing("pass above", Checks.INVALID, b -> b.pass(21));
        changesNothing("set 0 below", Checks.INVALID, b -> b.set(0, 0));
        changesNothing("set 0 above", Checks.INVALID, b -> b.set(0, 10));
        changesNothing("set 1 below", Checks.INVALID, b -> b.set(1, -1));
        changesNothing("set 1 above", Checks.INVALID, b -> b.set(1, 10));
        changesNothing("set what above", Checks.INVALID, b -> b.set(2, 5));
        changesNothing("set what below", Checks.INVALID, b -> b.set(-1, 5));
        changesNothing("type below", Checks.INVALID, b -> b.type(31));
        changesNothing("type above", Checks.INVALID, b -> b.type(127));
    }

    @Sentence("A call that returns an error changes nothing.")
    static void whatIsToldChangesNothing() {
        changesNothing("letterOf", Checks.INVALID, b -> b.letterOf(10, 0));
        changesNothing("letterOf", Checks.NOT_FOUND, b -> b.letterOf(9, 0));
        changesNothing("placeOf", Checks.INVALID, b -> b.placeOf(2, 0));
        changesNothing("placeOf", Checks.NOT_FOUND, b -> b.placeOf(1, 2));
        changesNothing("reads", Checks.INVALID, b -> b.reads(2, 0));
        changesNothing("reads", Checks.NOT_FOUND, b -> b.reads(0, 2));
        changesNothing("word", Checks.INVALID, b -> b.word(0, 12));
        changesNothing("count", Checks.INVALID, b -> b.count(11));
        changesNothing("composed", Checks.INVALID, b -> b.composed(0, 0, 3));
        changesNothing("composed", Checks.NOT_POSSIBLE, b -> b.composed(0, 9, 0));
        changesNothing("composed", Checks.NOT_FOUND, b -> b.composed(2, 3, 0));
        changesNothing("goesWith", Checks.INVALID, b -> b.goesWith(10));
        changesNothing("goesWith", Checks.NOT_POSSIBLE, b -> b.goesWith(9));
        changesNothing("quality", Checks.NOT_FOUND, TurnedBoards::new, TurnedBoards::quality);
        changesNothing("bareIn", Checks.NOT_FOUND, TurnedBoards::bareIn);
        changesNothing("fault", Checks.INVALID, b -> b.fault(2));
        changesNothing("fault", Checks.NOT_FOUND, b -> b.fault(0));
    }

    @Sentence("A call that returns an error changes nothing.")
    static void notPossibleChangesNothing() {
        changesNothing("letter", Checks.NOT_POSSIBLE, b -> b.letter(9, ROW));
        changesNothing("letter", Checks.NOT_POSSIBLE, b -> b.letter(0, FIFTH_ROW));
        changesNothing("compose", Checks.NOT_POSSIBLE, ChangesBoundsTest::boardWithoutComposed, b -> b.compose(0));
        changesNothing("composeAll", Checks.NOT_POSSIBLE, () -> Checks.drawn(ROW, FIFTH_ROW), TurnedBoards::composeAll);
        changesNothing("restore", Checks.NOT_POSSIBLE, () -> Checks.hung("ab/ba", 1, 2), TurnedBoards::restore);
        changesNothing("undo", Checks.NOT_POSSIBLE, ChangesBoundsTest::boardWithoutHistory, TurnedBoards::undo);
        for (String text : new String[] {"", "a", "ab/b", "ab/bab", "aj/ja", "aaaaaaaaa"}) {
            Supplier<TurnedBoards> faulty = () -> {
                TurnedBoards board = board();
                board.clearText();
                Checks.type(board, text);
                return board;
            };
            changesNothing("read " + text, Checks.NOT_POSSIBLE, faulty, TurnedBoards::read);
        }
    }

    private static TurnedBoards boardWithoutHistory() {
        TurnedBoards board = board();
        for (int step = 0; step < 4; step++) {
            board.undo();
        }
        return board;
    }

    @Sentence("A call that returns an error changes nothing.")
    static void limitReachedChangesNothing() {
        changesNothing("paint", Checks.LIMIT, b -> b.paint(0));
        Supplier<TurnedBoards> full = () -> Checks.typed("aa/aa" + ".".repeat(25), ROW);
        changesNothing("type", Checks.LIMIT, full, b -> b.type('a'));
    }

    @Sentence("A call that returns an error changes nothing.")
    static void aDayAboveChangesNothing() {
        TurnedBoards board = Checks.typed("a/a", ROW);
        board.read();
        for (int call = 0; call < 499; call++) {
            board.pass(20);
        }
        board.sign(0, ROW);
        Checks.due("day above", board.pass(20), Checks.LIMIT);
        Checks.due("the day", board.count(4), 9980);
        Checks.due("the coats", board.placeOf(0, 1), 4);
        Checks.due("the states", board.undo(), 3);
        Checks.due("the latest one", board.placeOf(0, 1), 0);
    }

    @Sentence("If there is no place with a certain number, this is INVALID_ARGUMENT.")
    static void noSuchPlace() {
        for (int places = 0; places <= 8; places++) {
            TurnedBoards board = Checks.drawn(ROW);
            if (places > 0) {
                String word = "aaaaaaaa".substring(0, places);
                Checks.read(board, word + "/" + word);
            }
            for (int place : new int[] {Integer.MIN_VALUE, -1, places, places + 1, 8, Integer.MAX_VALUE}) {
                if (place >= 0 && place < places) {
                    continue;
                }
                String what = "place " + place + " of " + places;
                Checks.due(what, board.sign(place, 5), Checks.INVALID);
                Checks.due(what, board.compose(place), Checks.INVALID);
                Checks.due(what, board.paint(place), Checks.INVALID);
                for (int number = 0; number < 8; number++) {
                    Checks.due(what, board.placeOf(place, number), Checks.INVALID);
                }
            }
        }
    }
}
