/** Promises 3 to 6, 12 to 15 and 18: signs on places, what is read of them, and what is counted. */
public final class PlacesTest {
    private static final int L = Checks.rows("#..", "#..", "#..", "#..", "###");
    private static final int L_TURNED = Checks.rows("###", "..#", "..#", "..#", "..#");
    private static final int I = Checks.rows(".#.", ".#.", ".#.", ".#.", ".#.");

    public static void main(String[] args) {
        promise3Sign();
        promise4Compose();
        promise5ComposeAll();
        promise6Paint();
        promise12PlaceOf();
        promise12Margins();
        promise12Errors();
        promise13Reads();
        promise13Errors();
        promise14Word();
        promise14WithoutPlaces();
        promise15Count();
        promise18Quality();
        Checks.end("PlacesTest");
    }

    private static TurnedBoards board(String text) {
        TurnedBoards board = Checks.drawn(L, L_TURNED, I);
        Checks.read(board, text);
        return board;
    }

    private static void promise3Sign() {
        TurnedBoards board = board("abc/aaa");
        Checks.due("3: first", board.sign(0, 32767), 0);
        Checks.due("3: again", board.sign(0, 0), 32767);
        Checks.due("3: coats", board.placeOf(0, 1), 4);
        board.set(0, 9);
        Checks.due("3: coats stay", board.placeOf(0, 1), 4);
        Checks.due("3: last place", board.sign(2, 5), 0);
        Checks.due("3: coats of the setting", board.placeOf(2, 1), 9);
        Checks.due("3: sign there", board.placeOf(2, 0), 5);
        Checks.due("3: no sign elsewhere", board.placeOf(1, 0), 0);
        Checks.due("3: no coats elsewhere", board.placeOf(1, 1), 0);
        Checks.due("3: may stand twice", board.sign(1, 5), 0);
        Checks.due("3: place below", board.sign(-1, 5), Checks.INVALID);
        Checks.due("3: place above", board.sign(3, 5), Checks.INVALID);
        Checks.due("3: sign below", board.sign(0, -1), Checks.INVALID);
        Checks.due("3: sign above", board.sign(0, 32768), Checks.INVALID);
        Checks.due("3: no places", new TurnedBoards().sign(0, 5), Checks.INVALID);
        Checks.due("3: errors change nothing", board.placeOf(0, 0), 0);
    }

    private static void promise4Compose() {
        TurnedBoards board = board("ac/cb");
        Checks.due("4: between 0 and 1", board.compose(0), L);
        Checks.due("4: sign", board.placeOf(0, 0), L);
        Checks.due("4: coats", board.placeOf(0, 1), 4);
        Checks.due("4: other place", board.placeOf(1, 0), 0);
        board.set(0, 7);
        Checks.due("4: between 2 and 2", board.compose(1), I);
        Checks.due("4: coats of the setting", board.placeOf(1, 1), 7);
        board.letter(2, Checks.rows("#.#", ".#.", ".#.", ".#.", "#.#"));
        Checks.due("4: again, drawn otherwise", board.compose(1), Checks.rows("#.#", ".#.", ".#.", ".#.", "#.#"));
        Checks.due("4: place below", board.compose(-1), Checks.INVALID);
        Checks.due("4: place above", board.compose(2), Checks.INVALID);
        Checks.due("4: no places", new TurnedBoards().compose(0), Checks.INVALID);
        board = Checks.drawn(0, 32767, 31, 31744);
        Checks.read(board, "a/b");
        board.sign(0, 77);
        int states = board.count(8);
        board.undo();
        Checks.due("4: none", board.compose(0), Checks.NOT_POSSIBLE);
        Checks.due("4: none is no change", board.count(8), states - 1);
        Checks.due("4: none, no coats", board.placeOf(0, 1), 0);
    }

    private static void promise5ComposeAll() {
        TurnedBoards board = board("acb/acb");
        board.set(0, 2);
        Checks.due("5: all", board.composeAll(), 3);
        Checks.due("5: sign 1", board.placeOf(1, 0), I);
        Checks.due("5: sign 0", board.placeOf(0, 0), L);
        Checks.due("5: sign 2", board.placeOf(2, 0), L_TURNED);
        Checks.due("5: coats", board.count(6), 6);
        Checks.due("5: no places", new TurnedBoards().composeAll(), Checks.NOT_POSSIBLE);
        board = Checks.drawn(0, 32767, 31, 31744);
        Checks.read(board, "aa/ba");
        board.sign(1, 99);
        board.paint(1);
        Checks.due("5: one of two", board.composeAll(), 1);
        Checks.due("5: the other stays", board.placeOf(1, 0), 99);
        Checks.due("5: the other's coats stay", board.placeOf(1, 1), 5);
        Checks.due("5: blank on blank", board.placeOf(0, 2), 0);
        Checks.read(board, "a/b");
        board.undo();
        Checks.read(board, "a/b");
        board.undo();
        int states = board.count(8);
        Checks.read(board, "a/b");
        Checks.due("5: none of one", board.composeAll(), 0);
        Checks.due("5: none is a change, too", board.count(8), states + 2 > 4 ? 4 : states + 2);
    }

    private static void promise6Paint() {
        TurnedBoards board = board("aa/aa");
        for (int coats = 1; coats <= 9; coats++) {
            Checks.due("6: coats", board.paint(1), coats);
        }
        Checks.due("6: no more", board.paint(1), Checks.LIMIT);
        Checks.due("6: no more", board.placeOf(1, 1), 9);
        Checks.due("6: other place", board.placeOf(0, 1), 0);
        board.sign(0, 1);
        Checks.due("6: above the setting", board.paint(0), 5);
        Checks.due("6: the sign stays", board.placeOf(0, 0), 1);
        Checks.due("6: place below", board.paint(-1), Checks.INVALID);
        Checks.due("6: place above", board.paint(2), Checks.INVALID);
        Checks.due("6: no places", new TurnedBoards().paint(0), Checks.INVALID);
    }

    private static void promise12PlaceOf() {
        TurnedBoards board = board("abc/cca");
        board.sign(0, L);
        int[] want = {L, 4, 0, 1, 0, 0};
        for (int what = 0; what < want.length; what++) {
            Checks.due("12: place 0, " + what, board.placeOf(0, what), want[what]);
        }
        Checks.due("12: wanted upright", board.placeOf(1, 4), 1);
        Checks.due("12: wanted turned", board.placeOf(1, 5), 2);
        Checks.due("12: wanted upright", board.placeOf(2, 4), 2);
        Checks.due("12: wanted turned", board.placeOf(2, 5), 2);
        Checks.due("12: no coats, upright", board.placeOf(1, 2), Checks.NOT_FOUND);
        Checks.due("12: no coats, turned", board.placeOf(1, 3), Checks.NOT_FOUND);
        board.gust(99);
        Checks.due("12: upright, though it hangs turned", board.placeOf(0, 2), 0);
        Checks.due("12: turned, when it hangs turned", board.placeOf(0, 3), 1);
        Checks.due("12: wanted upright, though it hangs turned", board.placeOf(0, 4), 0);
        board.paint(1);
        Checks.due("12: blank, but read", board.placeOf(1, 2), 2);
    }

    private static void promise12Margins() {
        TurnedBoards board = Checks.drawn(0, 7, 56);
        Checks.read(board, "ab/ca");
        Checks.due("12: margin without coats", board.placeOf(0, 6), 3);
        Checks.due("12: margin below 0", board.placeOf(1, 6), -3);
        Checks.due("12: margin below 0, turned", board.placeOf(1, 7), -3);
        board.sign(0, 63);
        Checks.due("12: margin", board.placeOf(0, 6), -3);
        board.sign(1, 28672);
        Checks.due("12: margin turned", board.placeOf(1, 7), -6);
        Checks.due("12: read turned", board.placeOf(1, 3), 1);
        board.sign(1, 3);
        Checks.due("12: read upright", board.placeOf(1, 2), 1);
        Checks.due("12: margin", board.placeOf(1, 6), 1);
        board = Checks.drawn(7);
        Checks.read(board, "a/a");
        Checks.due("12: the only letter", board.placeOf(0, 6), 12);
        board.sign(0, 32760);
        Checks.due("12: the only letter, far off", board.placeOf(0, 6), 0);
        Checks.due("12: the only letter, turned", board.placeOf(0, 7), 6);
        Checks.due("12: the only letter is read always", board.placeOf(0, 2), 0);
    }

    private static void promise12Errors() {
        TurnedBoards board = board("ab/cc");
        for (int what = 0; what < 8; what++) {
            Checks.due("12: place below", board.placeOf(-1, what), Checks.INVALID);
            Checks.due("12: place above", board.placeOf(2, what), Checks.INVALID);
        }
        Checks.due("12: what below", board.placeOf(0, -1), Checks.INVALID);
        Checks.due("12: what above", board.placeOf(0, 8), Checks.INVALID);
    }

    private static void promise13Reads() {
        TurnedBoards board = board("abc/ccc");
        board.sign(0, L);
        board.sign(1, I);
        int[] upright = {0, 2, Checks.NOT_FOUND};
        int[] turned = {Checks.NOT_FOUND, 2, 1};
        for (int index = 0; index < 3; index++) {
            Checks.due("13: reader 0, upright", board.reads(0, index), upright[index]);
            Checks.due("13: reader 1, upright", board.reads(1, index), turned[index]);
        }
        board.gust(99);
        for (int index = 0; index < 3; index++) {
            Checks.due("13: reader 0, turned", board.reads(0, index), turned[index]);
            Checks.due("13: reader 1, turned", board.reads(1, index), upright[index]);
        }
        // 511 is as far from 7 as from 56: the lower letter is read
        board = Checks.drawn(56, 7);
        Checks.read(board, "a/a");
        board.sign(0, 511);
        Checks.due("13: of several the lowest", board.reads(0, 0), 0);
    }

    private static void promise13Errors() {
        TurnedBoards board = board("ab/cc");
        Checks.due("13: reader below", board.reads(-1, 0), Checks.INVALID);
        Checks.due("13: reader above", board.reads(2, 0), Checks.INVALID);
        Checks.due("13: reader above, index above", board.reads(2, 9), Checks.INVALID);
        Checks.due("13: index below", board.reads(0, -1), Checks.INVALID);
        Checks.due("13: index above", board.reads(0, 2), Checks.NOT_FOUND);
        Checks.due("13: index far above", board.reads(1, Integer.MAX_VALUE), Checks.NOT_FOUND);
        Checks.due("13: no places", new TurnedBoards().reads(0, 0), Checks.NOT_FOUND);
    }

    private static void promise14Word() {
        TurnedBoards board = board("ac/cb");
        int[][] letters = {{0, 2}, {2, 1}};
        for (int word = 0; word < 2; word++) {
            Checks.due("14: not said yet", board.word(word, 0), 0);
            Checks.due("14: read as none", board.word(word, 1), 2);
            Checks.due("14: seen", board.word(word, 2), 1 - word);
            Checks.due("14: letter", board.word(word, 10), letters[word][0]);
            Checks.due("14: letter", board.word(word, 11), letters[word][1]);
            Checks.due("14: index above", board.word(word, 12), Checks.INVALID);
            Checks.due("14: what below", board.word(word, -1), Checks.INVALID);
            Checks.due("14: between", board.word(word, 3), Checks.INVALID);
            Checks.due("14: between", board.word(word, 9), Checks.INVALID);
            Checks.due("14: far above", board.word(word, Integer.MAX_VALUE), Checks.INVALID);
            Checks.due("14: far below", board.word(word, Integer.MIN_VALUE), Checks.INVALID);
        }
        board.sign(0, L);
        Checks.due("14: one wrong", board.word(0, 1), 1);
        Checks.due("14: one wrong, turned", board.word(1, 1), 1);
        board.sign(1, L_TURNED);
        Checks.due("14: read otherwise", board.word(0, 1), 1);
        Checks.due("14: not said", board.word(0, 0), 0);
        board.composeAll();
        Checks.due("14: said", board.word(0, 0), 1);
        Checks.due("14: said turned", board.word(1, 0), 1);
        Checks.due("14: none wrong", board.word(1, 1), 0);
        board.gust(99);
        Checks.due("14: seen no more", board.word(0, 2), 0);
        Checks.due("14: seen now", board.word(1, 2), 1);
        Checks.due("14: still said this way round", board.word(0, 0), 1);
        Checks.due("14: word below", board.word(-1, 0), Checks.INVALID);
        Checks.due("14: word above", board.word(2, 0), Checks.INVALID);
        board.sign(0, L_TURNED);
        board.sign(1, I);
        Checks.due("14: one wrong upright", board.word(0, 1), 1);
        Checks.due("14: one wrong turned", board.word(1, 1), 1);
    }

    private static void promise14WithoutPlaces() {
        TurnedBoards board = new TurnedBoards();
        Checks.due("14: said without places", board.word(0, 0), 1);
        Checks.due("14: said without places", board.word(1, 0), 1);
        Checks.due("14: none wrong", board.word(0, 1), 0);
        Checks.due("14: seen", board.word(0, 2), 1);
        Checks.due("14: not seen", board.word(1, 2), 0);
        Checks.due("14: no letter", board.word(0, 10), Checks.INVALID);
    }

    private static void promise15Count() {
        TurnedBoards board = board("abcabcab/abcabcab");
        Checks.due("15: places", board.count(0), 8);
        Checks.due("15: letters", board.count(1), 7);
        board.letter(9, 1);
        Checks.due("15: letters", board.count(1), 519);
        board.sign(3, I);
        board.paint(7);
        Checks.due("15: coats", board.count(6), 5);
        Checks.due("15: places with coats", board.count(7), 2);
        board.paint(0);
        Checks.due("15: coats with those of the first place", board.count(6), 6);
        Checks.due("15: places with coats, the first, too", board.count(7), 3);
        board.gust(99);
        Checks.due("15: turned", board.count(2), 1);
        Checks.due("15: stiffness", board.count(3), 19);
        Checks.due("15: turns", board.count(5), 1);
        board.gust(99);
        Checks.due("15: upright", board.count(2), 0);
        Checks.due("15: turns", board.count(5), 2);
        board.pass(2);
        Checks.due("15: day", board.count(4), 2);
        Checks.due("15: states", board.count(8), 4);
        Checks.type(board, "hello");
        Checks.due("15: text", board.count(9), 5);
        board.keep();
        Checks.due("15: snapshot", board.count(10), 1);
        board.set(0, 8);
        board.set(1, 0);
        Checks.due("15: setting 0", board.count(20), 8);
        Checks.due("15: setting 1", board.count(21), 0);
        int[] none = {-1, 11, 12, 19, 22, Integer.MIN_VALUE, Integer.MAX_VALUE};
        for (int what : none) {
            Checks.due("15: no such number", board.count(what), Checks.INVALID);
        }
    }

    private static void promise18Quality() {
        Checks.due("18: no places", new TurnedBoards().quality(), Checks.NOT_FOUND);
        TurnedBoards board = Checks.drawn(7);
        Checks.read(board, "a/a");
        Checks.due("18: 12", board.quality(), Float.floatToIntBits(12f));
        board.sign(0, 7);
        Checks.due("18: 15 and 9", board.quality(), Float.floatToIntBits(12f));
        board.sign(0, 15);
        Checks.due("18: 14 and 8", board.quality(), Float.floatToIntBits(11f));
        board = Checks.drawn(0, 7, 56);
        Checks.read(board, "b/b");
        Checks.due("18: below 0", board.quality(), Float.floatToIntBits(-3f));
        board.sign(0, 7);
        Checks.due("18: 3 and -3", board.quality(), 0);
        Checks.read(board, "abc/cab");
        board.sign(0, 3);
        Checks.due("18: not whole", board.quality(), Float.floatToIntBits(-10f / 6f));
        Checks.due("18: changes nothing", board.count(8), 4);
        Checks.read(board, "baa/acb");
        board.sign(0, 28675);
        board.sign(1, 1);
        Checks.due("18: 1 + 3, 1 - 3, 3 + 3", board.quality(), Float.floatToIntBits(8f / 6f));
        board.sign(2, 1);
        Checks.due("18: 1 + 3, 1 - 3, 1 + 3", board.quality(), Float.floatToIntBits(1f));
        board.sign(2, 511);
        Checks.due("18: 1 + 3, 1 - 3, -3 + 3", board.quality(), Float.floatToIntBits(2f / 6f));
        Checks.read(board, "bbbbbbbb/bbbbbbbb");
        Checks.due("18: all below 0", board.quality(), Float.floatToIntBits(-3f));
        for (int place = 0; place < 8; place++) {
            board.sign(place, 28675);
        }
        Checks.due("18: all above 0", board.quality(), Float.floatToIntBits(2f));
        board.sign(5, 0);
        Checks.due("18: sixteenths", board.quality(), Float.floatToIntBits(22f / 16f));
    }
}
