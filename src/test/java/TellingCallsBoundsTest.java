/** Promises 11 to 19: a test of each sentence that names a boundary case. */
public final class TellingCallsBoundsTest {
    private static final int ROW = 7;
    private static final int FIFTH_ROW = 28672;
    private static final int[] FAR_OUT = {Integer.MIN_VALUE, Integer.MIN_VALUE + 1, -1001, Integer.MAX_VALUE, 65536};

    public static void main(String[] args) throws ReflectiveOperationException {
        Sentences.testAll(TellingCallsBoundsTest.class);
    }

    @Sentence("letter: 0 to 9")
    static void promise11Letter() {
        TurnedBoards board = Checks.drawn(ROW);
        board.letter(9, 73);
        for (int what = 0; what < 6; what++) {
            Checks.due("below", board.letterOf(-1, what), Checks.INVALID);
            Checks.due("above", board.letterOf(10, what), Checks.INVALID);
            for (int far : FAR_OUT) {
                Checks.due("far out", board.letterOf(far, what), Checks.INVALID);
            }
        }
        Checks.due("lowest", board.letterOf(0, 0), ROW);
        Checks.due("highest", board.letterOf(9, 0), 73);
        Checks.due("what below", board.letterOf(0, -1), Checks.INVALID);
        Checks.due("what above", board.letterOf(0, 6), Checks.INVALID);
        for (int far : FAR_OUT) {
            Checks.due("what far out", board.letterOf(0, far), Checks.INVALID);
        }
    }

    @Sentence("0: its sign; 1: its sign turned; 2: its dark cells; 3: the letter as which its sign turned is read")
    static void promise11OfOneSign() {
        int[][] signs = {{0, 0, 0}, {32767, 32767, 15}, {1, 16384, 1}, {16384, 1, 1}, {128, 128, 1}, {32766, 16383, 14}};
        for (int[] sign : signs) {
            TurnedBoards board = Checks.drawn(sign[0]);
            Checks.due("sign", board.letterOf(0, 0), sign[0]);
            Checks.due("turned", board.letterOf(0, 1), sign[1]);
            Checks.due("dark", board.letterOf(0, 2), sign[2]);
            Checks.due("the only letter", board.letterOf(0, 3), 0);
        }
        TurnedBoards board = Checks.drawn(0, 1, 2, 16384);
        Checks.due("another, at distance 0", board.letterOf(1, 3), 3);
        Checks.due("the other way about", board.letterOf(3, 3), 1);
        Checks.due("of several the lowest", board.letterOf(2, 3), 0);
        board = Checks.drawn(2, 1, 0);
        Checks.due("itself is the lowest of several", board.letterOf(0, 3), 2);
        board.letter(2, 32767);
        Checks.due("of several the lowest, itself among them", board.letterOf(0, 3), 0);
        Checks.due("of several the lowest, itself not the lowest", board.letterOf(1, 3), 0);
    }

    @Sentence("4: the other letter whose sign is nearest to its sign, of several the lowest")
    static void promise11Nearest() {
        TurnedBoards board = Checks.drawn(0, 3, 1, 2, 16384);
        Checks.due("three at distance 1", board.letterOf(0, 4), 2);
        Checks.due("two at distance 1", board.letterOf(1, 4), 2);
        Checks.due("one lower at distance 1", board.letterOf(2, 4), 0);
        Checks.due("the highest", board.letterOf(4, 4), 0);
        board = Checks.drawn(0, 32767);
        Checks.due("as far off as can be", board.letterOf(0, 4), 1);
        Checks.due("as far off as can be", board.letterOf(1, 4), 0);
        board = new TurnedBoards();
        board.letter(9, 1);
        board.letter(8, 2);
        Checks.due("the highest letters", board.letterOf(9, 4), 8);
        Checks.due("the highest letters", board.letterOf(8, 4), 9);
    }

    @Sentence("5: how often it is in both wanted words")
    static void promise11Wanted() {
        TurnedBoards board = Checks.drawn(1, 2, 4);
        Checks.due("no words", board.letterOf(0, 5), 0);
        Checks.due("not drawn, no words", board.letterOf(9, 5), 0);
        Checks.read(board, "aaaaaaaa/aaaaaaaa");
        Checks.due("every letter", board.letterOf(0, 5), 16);
        Checks.due("no letter", board.letterOf(1, 5), 0);
        Checks.read(board, "abb/cba");
        Checks.due("first and last", board.letterOf(0, 5), 2);
        Checks.due("in both", board.letterOf(1, 5), 3);
        Checks.due("in the word 1 alone", board.letterOf(2, 5), 1);
        Checks.due("not drawn", board.letterOf(3, 5), 0);
        Checks.read(board, "a/a");
        Checks.due("nothing is left of longer words", board.letterOf(1, 5), 0);
        Checks.due("one place", board.letterOf(0, 5), 2);
    }

    @Sentence("NOT_FOUND for 0 to 4 if it is not drawn, for 4 if no other one is.")
    static void promise11NotDrawn() {
        TurnedBoards board = new TurnedBoards();
        board.letter(3, 0);
        for (int what = 0; what < 5; what++) {
            Checks.due("not drawn", board.letterOf(4, what), Checks.NOT_FOUND);
        }
        Checks.due("not drawn, but not wanted", board.letterOf(4, 5), 0);
        for (int what = 0; what < 3; what++) {
            Checks.due("drawn as 0", board.letterOf(3, what), 0);
        }
        Checks.due("it is read as itself", board.letterOf(3, 3), 3);
        Checks.due("no other one", board.letterOf(3, 4), Checks.NOT_FOUND);
        board.letter(9, 32767);
        Checks.due("another one", board.letterOf(3, 4), 9);
        board.undo();
        Checks.due("no other one again", board.letterOf(3, 4), Checks.NOT_FOUND);
    }

    @Sentence("Returns the number; INVALID_ARGUMENT if an argument is out of range")
    static void promise12Range() {
        TurnedBoards board = Checks.hung("ab/ba", ROW, FIFTH_ROW);
        for (int what = 0; what < 8; what++) {
            Checks.due("place below", board.placeOf(-1, what), Checks.INVALID);
            Checks.due("place above", board.placeOf(2, what), Checks.INVALID);
            for (int far : FAR_OUT) {
                Checks.due("place far out", board.placeOf(far, what), Checks.INVALID);
            }
        }
        for (int place = 0; place < 2; place++) {
            Checks.due("lowest what", board.placeOf(place, 0), 0);
            Checks.due("highest what", board.placeOf(place, 7), 0);
            Checks.due("what below", board.placeOf(place, -1), Checks.INVALID);
            Checks.due("what above", board.placeOf(place, 8), Checks.INVALID);
            for (int far : FAR_OUT) {
                Checks.due("what far out", board.placeOf(place, far), Checks.INVALID);
            }
        }
    }

    @Sentence("0: its sign; 1: its coats; 2: the letter as which it is read upright; 3: that as which it is read turned")
    static void promise12SignCoatsRead() {
        TurnedBoards board = Checks.hung("aaaaaaaa/aaaaaaaa", ROW, FIFTH_ROW, 0);
        board.set(0, 9);
        for (int place = 0; place < 8; place += 7) {
            int[][] dues = {{ROW, 9, 0, 1}, {FIFTH_ROW, 9, 1, 0}, {0, 9, 2, 2}, {32767, 9, 0, 0}};
            for (int[] due : dues) {
                board.sign(place, due[0]);
                for (int what = 0; what < 4; what++) {
                    Checks.due("place " + place + ", " + what, board.placeOf(place, what), due[what]);
                }
            }
        }
        board.gust(99);
        board.sign(0, FIFTH_ROW);
        Checks.due("upright, though it hangs turned", board.placeOf(0, 2), 1);
        Checks.due("turned, as it hangs", board.placeOf(0, 3), 0);
    }

    @Sentence("6: the margin of its sign upright for the letter wanted upright")
    static void promise12MarginUpright() {
        TurnedBoards board = Checks.hung("aaaaaaab/baaaaaab", 0, 32767);
        for (int place = 0; place < 8; place += 7) {
            for (int dark = 0; dark <= 15; dark++) {
                board.sign(place, (1 << dark) - 1);
                int due = place == 0 ? 15 - 2 * dark : 2 * dark - 15;
                Checks.due("place " + place + ", dark " + dark, board.placeOf(place, 6), due);
            }
        }
        Checks.due("turned, the last letter is of the first place", board.placeOf(0, 7), 15);
    }

    @Sentence("4: the letter wanted upright; 5: that wanted turned")
    static void promise12Wanted() {
        TurnedBoards board = Checks.hung("abcdefgh/ijabcdef", 1, 2, 4, 8, 16, 32, 64, 128, 256, 512);
        int[] turned = {5, 4, 3, 2, 1, 0, 9, 8};
        for (int place = 0; place < 8; place++) {
            Checks.due("upright " + place, board.placeOf(place, 4), place);
            Checks.due("turned " + place, board.placeOf(place, 5), turned[place]);
        }
        board.gust(99);
        Checks.due("upright, though it hangs turned", board.placeOf(0, 4), 0);
        Checks.due("turned, though it hangs turned", board.placeOf(0, 5), 5);
        Checks.read(board, "a/j");
        Checks.due("one place", board.placeOf(0, 4), 0);
        Checks.due("one place turned", board.placeOf(0, 5), 9);
    }

    @Sentence("the margin of its sign turned for the letter wanted turned (6, 7: whatever coats there are)")
    static void promise12Margins() {
        TurnedBoards board = Checks.hung("a/b", ROW, FIFTH_ROW);
        board.sign(0, ROW);
        for (int coats = 4; coats >= 0; coats--) {
            Checks.due("coats", board.placeOf(0, 1), coats);
            Checks.due("upright", board.placeOf(0, 6), 6);
            Checks.due("turned", board.placeOf(0, 7), 6);
            board.pass(1);
        }
        board.gust(99);
        Checks.due("upright, though it hangs turned", board.placeOf(0, 6), 6);
        Checks.read(board, "a/b");
        Checks.due("a blank sign without coats", board.placeOf(0, 6), 0);
        board.sign(0, FIFTH_ROW);
        Checks.due("below 0", board.placeOf(0, 6), -6);
        Checks.due("below 0, turned", board.placeOf(0, 7), -6);
    }

    @Sentence("NOT_FOUND for 2 and 3 if it is read as none, for 6 and 7 if that letter is not drawn.")
    static void promise12ReadAsNone() {
        TurnedBoards board = Checks.hung("a/a", 0);
        Checks.due("no coats", board.placeOf(0, 2), Checks.NOT_FOUND);
        Checks.due("no coats, turned", board.placeOf(0, 3), Checks.NOT_FOUND);
        board.paint(0);
        Checks.due("one coat", board.placeOf(0, 2), 0);
        Checks.due("one coat, turned", board.placeOf(0, 3), 0);
        board.set(1, 0);
        board.pass(1);
        Checks.due("no coats again", board.placeOf(0, 2), Checks.NOT_FOUND);
        Checks.due("no coats again, turned", board.placeOf(0, 3), Checks.NOT_FOUND);
    }

    @Sentence("reader: 0 or 1")
    static void promise13Reader() {
        TurnedBoards board = Checks.hung("a/a", ROW, FIFTH_ROW);
        board.sign(0, ROW);
        Checks.due("lowest", board.reads(0, 0), 0);
        Checks.due("highest", board.reads(1, 0), 1);
        Checks.due("below", board.reads(-1, 0), Checks.INVALID);
        Checks.due("above", board.reads(2, 0), Checks.INVALID);
        for (int far : FAR_OUT) {
            Checks.due("far out", board.reads(far, 0), Checks.INVALID);
        }
    }

    @Sentence("index: 0 for the first letter from the left, and so on")
    static void promise13Index() {
        TurnedBoards board = Checks.hung("abc/abc", 1, 2, 4);
        board.sign(0, 1);
        board.sign(2, 4);
        int[] due = {0, Checks.NOT_FOUND, 2};
        for (int index = 0; index < 3; index++) {
            Checks.due("reader 0 at " + index, board.reads(0, index), due[index]);
        }
        board.sign(0, 8192);
        board.sign(2, 16384);
        int[] turned = {0, Checks.NOT_FOUND, 1};
        for (int index = 0; index < 3; index++) {
            Checks.due("reader 1 at " + index, board.reads(1, index), turned[index]);
        }
    }

    @Sentence("Returns the letter; INVALID_ARGUMENT if reader is out of range or index is negative")
    static void promise13Invalid() {
        TurnedBoards board = Checks.hung("a/a", 0);
        board.paint(0);
        Checks.due("reader 0", board.reads(0, 0), 0);
        Checks.due("reader 1", board.reads(1, 0), 0);
        Checks.due("reader below", board.reads(-1, 0), Checks.INVALID);
        Checks.due("reader above", board.reads(2, 0), Checks.INVALID);
        Checks.due("index negative", board.reads(0, -1), Checks.INVALID);
        Checks.due("index negative, no places", new TurnedBoards().reads(1, -1), Checks.INVALID);
        for (int far : FAR_OUT) {
            Checks.due("reader far out", board.reads(far, 0), Checks.INVALID);
            Checks.due("index far out", board.reads(0, far), far < 0 ? Checks.INVALID : Checks.NOT_FOUND);
        }
    }

    @Sentence("NOT_FOUND if there are not so many places, or it is read as none.")
    static void promise13NotFound() {
        for (int places = 1; places <= 8; places++) {
            String word = "aaaaaaaa".substring(0, places);
            TurnedBoards board = Checks.hung(word + "/" + word, 0);
            for (int reader = 0; reader < 2; reader++) {
                Checks.due("without coats", board.reads(reader, places - 1), Checks.NOT_FOUND);
            }
            for (int place = 0; place < places; place++) {
                board.paint(place);
            }
            for (int reader = 0; reader < 2; reader++) {
                Checks.due("last", board.reads(reader, places - 1), 0);
                Checks.due("behind the last", board.reads(reader, places), Checks.NOT_FOUND);
                Checks.due("far behind", board.reads(reader, Integer.MAX_VALUE), Checks.NOT_FOUND);
            }
        }
        Checks.due("no places", new TurnedBoards().reads(0, 0), Checks.NOT_FOUND);
    }

    @Sentence("word: 0 or 1")
    static void promise14Word() {
        TurnedBoards board = Checks.hung("a/b", ROW, FIFTH_ROW);
        Checks.due("lowest", board.word(0, 10), 0);
        Checks.due("highest", board.word(1, 10), 1);
        for (int what : new int[] {0, 1, 2, 10}) {
            Checks.due("below", board.word(-1, what), Checks.INVALID);
            Checks.due("above", board.word(2, what), Checks.INVALID);
            for (int far : FAR_OUT) {
                Checks.due("far out", board.word(far, what), Checks.INVALID);
            }
        }
    }

    @Sentence("0: 1 if the board says it, this way round (all letters are read as wanted; without places, too), otherwise 0")
    static void promise14Says() {
        TurnedBoards board = new TurnedBoards();
        Checks.due("without places", board.word(0, 0), 1);
        Checks.due("without places, turned", board.word(1, 0), 1);
        board = Checks.hung("aaaaaaaa/bbbbbbbb", ROW, FIFTH_ROW);
        board.composeAll();
        Checks.due("all eight", board.word(0, 0), 1);
        Checks.due("all eight, turned", board.word(1, 0), 1);
        for (int place = 0; place < 8; place += 7) {
            board.sign(place, FIFTH_ROW);
            Checks.due("all but the place " + place, board.word(0, 0), 0);
            Checks.due("all but the place " + place + ", turned", board.word(1, 0), 0);
            board.undo();
        }
        board.set(1, 0);
        board.sign(7, ROW);
        board.paint(7);
        board.pass(4);
        Checks.due("one has paint", board.count(7), 1);
        Checks.due("the others are bare", board.word(0, 0), 0);
        board = Checks.hung("a/a", ROW, FIFTH_ROW);
        board.sign(0, ROW);
        Checks.due("upright alone", board.word(0, 0), 1);
        Checks.due("not turned", board.word(1, 0), 0);
    }

    @Sentence("1: how many of its letters are read otherwise, or as none")
    static void promise14Misread() {
        TurnedBoards board = new TurnedBoards();
        Checks.due("without places", board.word(0, 1), 0);
        Checks.due("without places, turned", board.word(1, 1), 0);
        board = Checks.hung("aaaaaaaa/bbbbbbbb", ROW, FIFTH_ROW);
        Checks.due("none has paint", board.word(0, 1), 8);
        Checks.due("none has paint, turned", board.word(1, 1), 8);
        for (int place = 0; place < 8; place++) {
            board.sign(place, ROW);
            Checks.due("so many are left", board.word(0, 1), 7 - place);
            Checks.due("so many are left, turned", board.word(1, 1), 7 - place);
        }
        board.sign(0, FIFTH_ROW);
        Checks.due("read otherwise", board.word(0, 1), 1);
        board.set(1, 0);
        board.pass(20);
        Checks.due("all bare", board.word(0, 1), 8);
    }

    @Sentence("2: 1 if reader 0 sees this way round now, otherwise 0")
    static void promise14Sees() {
        TurnedBoards board = new TurnedBoards();
        for (int turns = 0; turns < 3; turns++) {
            Checks.due("word 0", board.word(0, 2), turns % 2 == 0 ? 1 : 0);
            Checks.due("word 1", board.word(1, 2), turns % 2);
            board.gust(99);
        }
    }

    @Sentence("10 plus an index: its letter")
    static void promise14Letters() {
        TurnedBoards board = Checks.drawn(1, 2, 4, 8, 16, 32, 64, 128, 256, 512);
        for (int word = 0; word < 2; word++) {
            Checks.due("no letter at all", board.word(word, 10), Checks.INVALID);
        }
        Checks.read(board, "abcdefgh/jihgfedc");
        for (int index = 0; index < 8; index++) {
            Checks.due("word 0 at " + index, board.word(0, 10 + index), index);
            Checks.due("word 1 at " + index, board.word(1, 10 + index), 9 - index);
        }
        board.gust(99);
        Checks.due("the same, when it is turned", board.word(1, 10), 9);
    }

    @Sentence("Returns the number; INVALID_ARGUMENT if an argument is out of range (also an index that it has not).")
    static void promise14Invalid() {
        TurnedBoards board = Checks.drawn(1);
        for (int places = 0; places <= 8; places++) {
            String letters = "aaaaaaaa".substring(0, places);
            Checks.due("places", places == 0 ? 0 : Checks.read(board, letters + "/" + letters), places);
            for (int word = 0; word < 2; word++) {
                Checks.due("the last index", board.word(word, 9 + places), places == 0 ? Checks.INVALID : 0);
                Checks.due("an index that it has not", board.word(word, 10 + places), Checks.INVALID);
                Checks.due("below the first index", board.word(word, 9), Checks.INVALID);
                Checks.due("above 2", board.word(word, 3), Checks.INVALID);
                Checks.due("below 0", board.word(word, -1), Checks.INVALID);
            }
        }
        for (int far : FAR_OUT) {
            Checks.due("what far out", board.word(0, far), Checks.INVALID);
        }
    }

    @Sentence("Returns the number; INVALID_ARGUMENT if what is out of range.")
    static void promise15What() {
        TurnedBoards board = new TurnedBoards();
        int[] due = {0, 0, 0, 20, 0, 0, 0, 0, 0, 0, 0};
        for (int what = 0; what <= 10; what++) {
            Checks.due("count " + what, board.count(what), due[what]);
        }
        for (int what = 11; what <= 19; what++) {
            Checks.due("no such number", board.count(what), Checks.INVALID);
        }
        Checks.due("setting 0", board.count(20), 4);
        Checks.due("setting 1", board.count(21), 3);
        Checks.due("above", board.count(22), Checks.INVALID);
        Checks.due("below", board.count(-1), Checks.INVALID);
        for (int far : FAR_OUT) {
            Checks.due("far out", board.count(far), Checks.INVALID);
        }
    }

    @Sentence("0: places; 1: drawn letters, as a set; 2: 1 if the board hangs turned, otherwise 0; 3: the stiffness; 4: the day; "
        + "5: how often it turned so far; 6: coats of all places; 7: places with coats; 8: states in the history; "
        + "9: the length of the text; 10: 1 if there is a snapshot, otherwise 0")
    static void promise15Greatest() {
        TurnedBoards board = Checks.drawn(1, 2, 4, 8, 16, 32, 64, 128, 256, 512);
        Checks.due("all letters", board.count(1), 1023);
        Checks.read(board, "aaaaaaaa/aaaaaaaa");
        Checks.due("most places", board.count(0), 8);
        Checks.due("no coats", board.count(6), 0);
        Checks.due("no place with coats", board.count(7), 0);
        board.set(0, 9);
        for (int place = 0; place < 8; place++) {
            board.sign(place, 511);
        }
        Checks.due("most coats", board.count(6), 72);
        Checks.due("all places with coats", board.count(7), 8);
        board.pass(20);
        Checks.due("all lost", board.count(6), 0);
        Checks.due("no place with coats any more", board.count(7), 0);
        board.oil(99);
        Checks.due("the stiffest", board.count(3), 99);
        board.gust(99);
        Checks.due("turned", board.count(2), 1);
        board.gust(99);
        Checks.due("upright again", board.count(2), 0);
        Checks.due("turned twice", board.count(5), 2);
        Checks.due("most states", board.count(8), 4);
        Checks.type(board, " ".repeat(31));
        Checks.due("the longest text", board.count(9), 30);
        Checks.due("no snapshot", board.count(10), 0);
        board.keep();
        Checks.due("a snapshot", board.count(10), 1);
        board = new TurnedBoards();
        board.letter(9, 0);
        Checks.due("the highest letter alone, blank", board.count(1), 512);
    }

    @Sentence("20, 21: the settings 0, 1")
    static void promise15Settings() {
        TurnedBoards board = new TurnedBoards();
        int[][] settings = {{4, 3}, {1, 0}, {9, 9}};
        for (int[] values : settings) {
            board.set(0, values[0]);
            board.set(1, values[1]);
            Checks.due("setting 0", board.count(20), values[0]);
            Checks.due("setting 1", board.count(21), values[1]);
        }
    }

    @Sentence("one: the letter upright, 0 to 9")
    static void promise16One() {
        TurnedBoards board = Checks.drawn(1, 2, 4, 8, 16, 32, 64, 128, 256, 512);
        Checks.due("lowest", board.composed(0, 9, 2), 2);
        Checks.due("highest, turned as it is", board.composed(9, 5, 2), 0);
        Checks.due("below", board.composed(-1, 0, 2), Checks.INVALID);
        Checks.due("above", board.composed(10, 0, 2), Checks.INVALID);
        for (int far : FAR_OUT) {
            Checks.due("far out", board.composed(far, 0, 2), Checks.INVALID);
        }
        board = Checks.drawn(ROW, FIFTH_ROW, 3);
        Checks.due("upright as it is drawn", board.composed(0, 1, 0), ROW);
    }

    @Sentence("other: the letter turned, 0 to 9")
    static void promise16Other() {
        TurnedBoards board = Checks.drawn(1, 2, 4, 8, 16, 32, 64, 128, 256, 512);
        Checks.due("lowest", board.composed(9, 0, 2), 2);
        Checks.due("highest, turned as the letter", board.composed(5, 9, 2), 0);
        Checks.due("below", board.composed(0, -1, 2), Checks.INVALID);
        Checks.due("above", board.composed(0, 10, 2), Checks.INVALID);
        for (int far : FAR_OUT) {
            Checks.due("far out", board.composed(0, far, 2), Checks.INVALID);
        }
        board = Checks.drawn(ROW, FIFTH_ROW, 3);
        Checks.due("turned it is the other sign", board.composed(1, 0, 0), FIFTH_ROW);
    }

    @Sentence("0: the sign")
    static void promise16Sign() {
        Checks.due("lowest", Checks.drawn(0).composed(0, 0, 0), 0);
        Checks.due("highest", Checks.drawn(32767).composed(0, 0, 0), 32767);
        Checks.due("the lowest of many", Checks.drawn(127).composed(0, 0, 0), 0);
        Checks.due("none", Checks.drawn(0, 32767).composed(0, 1, 0), Checks.NOT_FOUND);
    }

    @Sentence("INVALID_ARGUMENT if an argument is out of range; NOT_POSSIBLE if one of them is not drawn; NOT_FOUND for 0 and 1 "
        + "if there is none.")
    static void promise16Errors() {
        TurnedBoards board = Checks.drawn(0, 32767);
        board.letter(9, 127);
        Checks.due("highest letter", board.composed(9, 9, 2), 14);
        Checks.due("what below", board.composed(0, 0, -1), Checks.INVALID);
        Checks.due("what above", board.composed(0, 0, 3), Checks.INVALID);
        for (int far : FAR_OUT) {
            Checks.due("what far out", board.composed(0, 0, far), Checks.INVALID);
        }
        for (int what = 0; what < 3; what++) {
            Checks.due("one not drawn", board.composed(2, 0, what), Checks.NOT_POSSIBLE);
            Checks.due("other not drawn", board.composed(0, 2, what), Checks.NOT_POSSIBLE);
        }
        Checks.due("none: sign", board.composed(0, 1, 0), Checks.NOT_FOUND);
        Checks.due("none: margin", board.composed(0, 1, 1), Checks.NOT_FOUND);
        Checks.due("none: exponent all the same", board.composed(0, 1, 2), 15);
        Checks.due("the sign 0 is one", board.composed(0, 0, 0), 0);
    }

    @Sentence("2: how many signs there are between both, as the exponent of two")
    static void promise16Exponent() {
        int[][] due = {{0, 0}, {32767, 0}, {128, 0}, {1, 2}, {127, 14}, {255, 14}, {7, 6}};
        for (int[] letter : due) {
            Checks.due("with itself, " + letter[0], Checks.drawn(letter[0]).composed(0, 0, 2), letter[1]);
        }
        TurnedBoards board = Checks.drawn(127, 255, 32512);
        Checks.due("all cells unlike", board.composed(0, 0, 2), 14);
        Checks.due("the middle one, too", board.composed(0, 1, 2), 15);
        Checks.due("no cell unlike", board.composed(0, 2, 2), 0);
    }

    @Sentence("1: the lesser of both margins")
    static void promise16Margin() {
        Checks.due("the greatest there is", Checks.drawn(0).composed(0, 0, 1), 15);
        Checks.due("the least there is", Checks.drawn(0, 1, 24576).composed(0, 1, 1), 0);
        TurnedBoards board = Checks.drawn(ROW, FIFTH_ROW, 3);
        Checks.due("1 upright and 5 turned", board.composed(0, 1, 1), 1);
        Checks.due("5 upright and 1 turned", board.composed(1, 0, 1), 1);
        Checks.due("the greatest with another letter", Checks.drawn(0, 32767).composed(0, 0, 1), 15);
    }

    @Sentence("Finds the letter that goes best with a letter (perhaps itself): which, turned, makes the composed sign with the "
        + "greatest lesser margin, of several the lowest.")
    static void promise17Best() {
        Checks.due("itself, the only one", Checks.drawn(9).goesWith(0), 0);
        TurnedBoards board = new TurnedBoards();
        board.letter(9, 127);
        Checks.due("itself, the highest", board.goesWith(9), 9);
        board.letter(8, 32512);
        Checks.due("as the other turned", board.goesWith(9), 8);
        Checks.due("as the other turned", board.goesWith(8), 9);
        board = Checks.drawn(511, 0, 16384, 24576);
        Checks.due("of several the lowest", board.goesWith(1), 0);
        Checks.due("of several the lowest", board.goesWith(3), 0);
        board = Checks.drawn(24576, 16385, 0);
        Checks.due("the greatest lesser margin is 0", board.composed(0, 0, 1), 0);
        Checks.due("the greatest lesser margin is 0", board.goesWith(0), 0);
        board = Checks.drawn(6, 73, 5, 128);
        Checks.due("margin before distance, the lowest", board.goesWith(0), 0);
        Checks.due("margin before distance, the lowest", board.goesWith(2), 0);
    }

    @Sentence("letter: the letter upright, 0 to 9")
    static void promise17Letter() {
        TurnedBoards board = Checks.drawn(16384, 8192, 4096, 2048, 1024, 512, 1, 2, 4, 8);
        Checks.due("lowest", board.goesWith(0), 6);
        Checks.due("highest", board.goesWith(9), 3);
        Checks.due("below", board.goesWith(-1), Checks.INVALID);
        Checks.due("above", board.goesWith(10), Checks.INVALID);
        for (int far : FAR_OUT) {
            Checks.due("far out", board.goesWith(far), Checks.INVALID);
        }
    }

    /** A letter's own sign is composed with what it is read as when turned: there is always one. */
    @Sentence("NOT_FOUND if there is no composed sign with any.")
    static void promise17AlwaysOne() {
        int[][] drawn = {{0}, {0, 32767}, {24576, 16385, 0}, {0, 1, 2, 4, 8, 16, 32, 64, 128, 256}, {1, 3, 7, 15, 31, 63, 127, 255, 511, 1023}};
        for (int[] signs : drawn) {
            TurnedBoards board = Checks.drawn(signs);
            for (int letter = 0; letter < signs.length; letter++) {
                int other = board.goesWith(letter);
                Checks.due("a letter", other >= 0 && other < signs.length ? 1 : 0, 1);
                Checks.due("a composed sign", board.composed(letter, other, 0) >= 0 ? 1 : 0, 1);
            }
        }
    }

    @Sentence("Returns the letter; INVALID_ARGUMENT if letter is out of range; NOT_POSSIBLE if it is not drawn")
    static void promise17Errors() {
        TurnedBoards board = Checks.drawn(0);
        Checks.due("drawn", board.goesWith(0), 0);
        for (int letter = 1; letter <= 9; letter++) {
            Checks.due("not drawn", board.goesWith(letter), Checks.NOT_POSSIBLE);
        }
        Checks.due("out of range", board.goesWith(10), Checks.INVALID);
        board.undo();
        Checks.due("drawn no more", board.goesWith(0), Checks.NOT_POSSIBLE);
    }

    @Sentence("the sum over all places of both margins (those of placeOf() with 6 and 7; 0 for a letter that is not drawn), "
        + "as a float, divided by two times the places, as a float.")
    static void promise18Quality() {
        TurnedBoards board = Checks.hung("a/a", 0);
        Checks.due("the greatest", board.quality(), Float.floatToIntBits(15f));
        board.sign(0, 32767);
        Checks.due("0", board.quality(), Float.floatToIntBits(0f));
        board.letter(1, 32767);
        Checks.due("the least", board.quality(), Float.floatToIntBits(-15f));
        for (int places = 1; places <= 8; places++) {
            String word = "aaaaaaaa".substring(0, places);
            board = Checks.hung(word + "/" + word, 0, 1);
            for (int place = 0; place < places; place++) {
                board.sign(place, 1);
            }
            Checks.due("upright -1, turned 1", board.quality(), 0);
            board.sign(0, 0);
            Checks.due("one place upright 1, too", board.quality(), Float.floatToIntBits(2f / (2 * places)));
            board.sign(0, 16385);
            Checks.due("one place both -1", board.quality(), Float.floatToIntBits(-2f / (2 * places)));
        }
        board = Checks.hung("aaaaaaaa/aaaaaaab", 0, 1, 16384);
        int sum = 0;
        for (int place = 0; place < 8; place++) {
            sum += board.placeOf(place, 6) + board.placeOf(place, 7);
        }
        Checks.due("the sum", sum, 14);
        Checks.due("not whole", board.quality(), Float.floatToIntBits(14f / 16f));
    }

    @Sentence("Returns the bits of how well the board is read, as a float")
    static void promise18Bits() {
        TurnedBoards board = Checks.hung("a/a", 0);
        for (int dark = 0; dark <= 14; dark++) {
            board.sign(0, (1 << dark) - 1);
            Checks.due("one letter, dark " + dark, board.quality(), Float.floatToIntBits(15f - dark));
        }
        int[] from15To7 = {0x41700000, 0x41600000, 0x41500000, 0x41400000, 0x41300000, 0x41200000, 0x41100000, 0x41000000, 0x40e00000};
        board = Checks.hung("aaaaaaaa/aaaaaaaa", 0);
        for (int place = 0; place < 8; place++) {
            Checks.due("eighths, " + place, board.quality(), Float.floatToIntBits(15f - place / 8f));
            board.sign(place, 1);
        }
        for (int dark = 0; dark <= 8; dark++) {
            for (int place = 0; place < 8; place++) {
                board.sign(place, (1 << dark) - 1);
            }
            Checks.due("the bits as they are written, dark " + dark, board.quality(), from15To7[dark]);
        }
        board.letter(1, 32767);
        Checks.due("the sign's bit", board.quality(), 0xbf800000);
    }

    @Sentence("Returns the bits; NOT_FOUND if there are no places.")
    static void promise18NoPlaces() {
        Checks.due("new", new TurnedBoards().quality(), Checks.NOT_FOUND);
        Checks.due("letters, no places", Checks.drawn(ROW).quality(), Checks.NOT_FOUND);
        Checks.due("a place", Checks.hung("a/a", 0).quality(), Float.floatToIntBits(15f));
    }

    @Sentence("Tells in how many days the first place that has coats has none any more, if the board hangs as it does now and "
        + "nothing else is done.")
    static void promise19Days() {
        TurnedBoards board = Checks.hung("aaaaaaaa/aaaaaaaa", 0);
        board.set(0, 9);
        board.sign(7, ROW);
        Checks.due("the most", board.bareIn(), 9);
        board.pass(8);
        Checks.due("the fewest", board.bareIn(), 1);
        board.sign(0, ROW);
        Checks.due("the last place is bare first", board.bareIn(), 1);
        board.pass(1);
        Checks.due("a bare one has none to lose", board.bareIn(), 8);
        board.set(0, 2);
        board.sign(3, FIFTH_ROW);
        Checks.due("one that does not fade counts not", board.bareIn(), 8);
        board.gust(99);
        Checks.due("it fades when it is turned", board.bareIn(), 2);
        Checks.due("so it is", board.pass(1) + board.placeOf(3, 1), 2);
        Checks.due("one day less", board.bareIn(), 1);
    }

    @Sentence("Returns how many days; NOT_FOUND if no place fades so.")
    static void promise19NoneFades() {
        Checks.due("no places", new TurnedBoards().bareIn(), Checks.NOT_FOUND);
        TurnedBoards board = Checks.hung("a/a", 0);
        board.set(1, 0);
        Checks.due("no coats", board.bareIn(), Checks.NOT_FOUND);
        board.paint(0);
        Checks.due("one coat", board.bareIn(), 1);
        board.set(1, 3);
        Checks.due("too light", board.bareIn(), Checks.NOT_FOUND);
        board.sign(0, 3);
        Checks.due("a cell too few", board.bareIn(), Checks.NOT_FOUND);
        board.sign(0, ROW);
        Checks.due("just dark enough", board.bareIn(), 4);
        board.gust(99);
        Checks.due("not as it hangs", board.bareIn(), Checks.NOT_FOUND);
        board.gust(99);
        board.pass(4);
        Checks.due("bare", board.bareIn(), Checks.NOT_FOUND);
    }
}
