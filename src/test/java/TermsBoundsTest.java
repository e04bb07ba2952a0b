/** The document's "What it is", "Terms" and "The board": a test of each sentence that names a boundary case. */
public final class TermsBoundsTest {
    /** The letter n is drawn as the sign with the cell n alone. */
    private static final int[] TEN = {1, 2, 4, 8, 16, 32, 64, 128, 256, 512};

    public static void main(String[] args) throws ReflectiveOperationException {
        Sentences.testAll(TermsBoundsTest.class);
    }

    @Sentence("An object is used for at most 512 calls after it has been made; what later calls answer is free.")
    static void the512thCall() {
        TurnedBoards board = new TurnedBoards();
        int stiffness = 20;
        for (int call = 1; call <= 510; call++) {
            int next = 1 + call % 99;
            Checks.due("oil, call " + call, board.oil(next), stiffness);
            stiffness = next;
        }
        Checks.due("call 511, undo", board.undo(), 3);
        Checks.due("call 512, the stiffness", board.count(3), 1 + 509 % 99);
        board = new TurnedBoards();
        for (int call = 1; call <= 511; call++) {
            Checks.due("gust, call " + call, board.gust(99), 1);
        }
        Checks.due("call 512, how often it turned", board.count(5), 511);
    }

    @Sentence("Words are rows of letters, told as a to j in texts, 0 to 9 otherwise.")
    static void lettersInTexts() {
        for (int letter = 0; letter < 10; letter++) {
            TurnedBoards board = Checks.hung((char) ('a' + letter) + "/" + (char) ('j' - letter), TEN);
            Checks.due("letter upright", board.word(0, 10), letter);
            Checks.due("letter turned", board.word(1, 10), 9 - letter);
        }
        for (String text : new String[] {"`/a", "k/a", "A/a", "J/a", "0/a", "9/a"}) {
            TurnedBoards board = Checks.typed(text, TEN);
            Checks.due("no letter " + text, board.fault(0), 0);
            Checks.due("no letter " + text, board.fault(1), 1);
        }
    }

    @Sentence("A sign has 15 cells, 5 rows of 3; it is told by a number from 0 to 32767, the bit 3 * row + column of which is 1 "
        + "if that cell is dark.")
    static void cellsOfASign() {
        TurnedBoards board = Checks.drawn(0);
        Checks.due("no cell", board.letterOf(0, 2), 0);
        for (int cell = 0; cell < 15; cell++) {
            Checks.due("one cell", board.letter(0, 1 << cell), cell == 0 ? 0 : 1 << cell - 1);
            Checks.due("one cell", board.letterOf(0, 2), 1);
        }
        Checks.due("all cells", board.letter(0, 32767), 1 << 14);
        Checks.due("all cells", board.letterOf(0, 2), 15);
        Checks.due("a cell too many", board.letter(0, 32768), Checks.INVALID);
        Checks.due("below none", board.letter(0, -1), Checks.INVALID);
        Checks.due("a row", board.letter(0, Checks.rows("...", "...", "...", "###", "...")), 32767);
        Checks.due("a row turned", board.letterOf(0, 1), Checks.rows("...", "###", "...", "...", "..."));
        board.letter(0, Checks.rows("#..", "#..", "#..", "#..", "#.."));
        Checks.due("a column turned", board.letterOf(0, 1), Checks.rows("..#", "..#", "..#", "..#", "..#"));
    }

    @Sentence("A sign turned has the cell k where 14 - k was.")
    static void aSignTurned() {
        TurnedBoards board = new TurnedBoards();
        for (int cell = 0; cell < 15; cell++) {
            board.letter(0, 1 << cell);
            Checks.due("the cell alone", board.letterOf(0, 1), 1 << 14 - cell);
            board.letter(0, 32767 ^ 1 << cell);
            Checks.due("all but the cell", board.letterOf(0, 1), 32767 ^ 1 << 14 - cell);
        }
        board.letter(0, 0);
        Checks.due("no cell", board.letterOf(0, 1), 0);
        board.letter(0, 32767);
        Checks.due("all cells", board.letterOf(0, 1), 32767);
    }

    @Sentence("There are 10 letters, 0 to 9; each is drawn as a sign, or not drawn (at first); no two are drawn as the same sign.")
    static void tenLetters() {
        TurnedBoards board = new TurnedBoards();
        for (int letter = 0; letter < 10; letter++) {
            Checks.due("not drawn at first", board.letterOf(letter, 0), Checks.NOT_FOUND);
        }
        Checks.due("none at first", board.count(1), 0);
        for (int letter = 9; letter >= 0; letter--) {
            Checks.due("drawn first", board.letter(letter, TEN[letter]), -1);
        }
        Checks.due("all at once", board.count(1), 1023);
        Checks.due("no tenth one", board.letter(10, 12345), Checks.INVALID);
        for (int letter = 0; letter < 10; letter++) {
            Checks.due("as the next one", board.letter(letter, TEN[(letter + 1) % 10]), Checks.NOT_POSSIBLE);
            Checks.due("as it was", board.letterOf(letter, 0), TEN[letter]);
        }
    }

    @Sentence("The distance of two signs is in how many cells they are unlike.")
    static void distances() {
        TurnedBoards light = Checks.hung("a/a", 0);
        TurnedBoards dark = Checks.hung("a/a", 32767);
        for (int distance = 0; distance <= 15; distance++) {
            light.sign(0, (1 << distance) - 1);
            dark.sign(0, (1 << distance) - 1);
            Checks.due("from no cell", light.placeOf(0, 6), 15 - distance);
            Checks.due("from all cells", dark.placeOf(0, 6), distance);
            Checks.due("from no cell, turned", light.placeOf(0, 7), 15 - distance);
        }
    }

    @Sentence("A sign is read as the drawn letter whose sign has the least distance from it, of several the lowest one; "
        + "as none if no letter is drawn.")
    static void readAsTheLowest() {
        TurnedBoards board = new TurnedBoards();
        board.letter(9, 8);
        board.letter(5, 1);
        board.letter(3, 2);
        Checks.read(board, "d/d");
        board.sign(0, 0);
        Checks.due("three at the same distance", board.placeOf(0, 2), 3);
        board.sign(0, 9);
        Checks.due("two at the same distance", board.placeOf(0, 2), 5);
        board.sign(0, 8);
        Checks.due("the nearest, though the highest", board.placeOf(0, 2), 9);
        board.sign(0, 16384 | 2048);
        Checks.due("two at the same distance, turned", board.placeOf(0, 3), 5);
        board.sign(0, 32767);
        Checks.due("three far off at the same distance", board.placeOf(0, 2), 3);
        board = Checks.hung("a/a", 0);
        board.sign(0, 32767);
        Checks.due("the only one, as far off as can be", board.placeOf(0, 2), 0);
    }

    @Sentence("The margin of a sign for a letter is the least distance of it from the sign of any other drawn letter, "
        + "less its distance from that of this letter (it can be 0 or below)")
    static void margins() {
        TurnedBoards board = Checks.hung("ab/ba", 0, 32767);
        int[] dark = {0, 7, 8, 15};
        for (int number : dark) {
            board.sign(0, (1 << number) - 1);
            board.sign(1, (1 << number) - 1);
            Checks.due("for the light one", board.placeOf(0, 6), 15 - 2 * number);
            Checks.due("for the dark one", board.placeOf(1, 6), 2 * number - 15);
            Checks.due("for the light one, turned", board.placeOf(0, 7), 15 - 2 * number);
            Checks.due("for the dark one, turned", board.placeOf(1, 7), 2 * number - 15);
        }
        board = Checks.hung("ab/ba", 1, 2);
        board.sign(0, 0);
        board.sign(1, 3);
        Checks.due("0, read as it", board.placeOf(0, 6), 0);
        Checks.due("0, read as the lower one", board.placeOf(1, 6), 0);
        board.sign(0, 2);
        Checks.due("below 0", board.placeOf(0, 6), -2);
        board = Checks.hung("a/a", 0, 7, 1);
        Checks.due("the nearest of the others", board.placeOf(0, 6), 1);
    }

    @Sentence("15 less its distance from this letter if no other one is drawn.")
    static void marginOfTheOnlyLetter() {
        TurnedBoards board = Checks.hung("a/a", 7);
        int[][] margins = {{7, 15, 9}, {0, 12, 12}, {32767, 3, 3}, {32760, 0, 6}};
        for (int[] due : margins) {
            board.sign(0, due[0]);
            Checks.due("upright", board.placeOf(0, 6), due[1]);
            Checks.due("turned", board.placeOf(0, 7), due[2]);
        }
        board.letter(9, 32760);
        Checks.due("another one is drawn now", board.placeOf(0, 6), -15);
    }

    @Sentence("The board has 0 to 8 places (0 at first), numbered from 0, from left to right when it hangs upright; "
        + "each has a sign (0 at first) and coats of paint (0 to 9; 0 at first).")
    static void places() {
        TurnedBoards board = Checks.drawn(TEN);
        Checks.due("at first", board.count(0), 0);
        Checks.due("no place 0", board.placeOf(0, 0), Checks.INVALID);
        String word = "abcdefgh";
        for (int places = 8; places >= 1; places--) {
            String text = word.substring(0, places) + "/" + word.substring(0, places);
            Checks.due("as many places", Checks.read(board, text), places);
            Checks.due("as many places", board.count(0), places);
            Checks.due("the place below", board.placeOf(-1, 0), Checks.INVALID);
            Checks.due("the first", board.placeOf(0, 0), 0);
            Checks.due("the last", board.placeOf(places - 1, 0), 0);
            Checks.due("the place behind", board.placeOf(places, 0), Checks.INVALID);
        }
        Checks.due("no ninth", Checks.read(board, "abcdefghi/abcdefghi"), Checks.NOT_POSSIBLE);
        Checks.due("as many as before", board.count(0), 1);
    }

    @Sentence("each has a sign (0 at first) and coats of paint (0 to 9; 0 at first).")
    static void signAndCoatsAtFirst() {
        TurnedBoards board = Checks.hung("aaaaaaaa/aaaaaaaa", 73);
        for (int place = 0; place < 8; place++) {
            Checks.due("sign", board.placeOf(place, 0), 0);
            Checks.due("coats", board.placeOf(place, 1), 0);
            board.sign(place, 32767);
        }
        Checks.read(board, "a/a");
        Checks.read(board, "aaaaaaaa/aaaaaaaa");
        for (int place = 0; place < 8; place++) {
            Checks.due("sign, after others", board.placeOf(place, 0), 0);
            Checks.due("coats, after others", board.placeOf(place, 1), 0);
        }
        board.set(1, 0);
        board.set(0, 9);
        board.sign(0, 0);
        Checks.due("most coats", board.placeOf(0, 1), 9);
        Checks.due("not more", board.paint(0), Checks.LIMIT);
        board.pass(20);
        Checks.due("not below 0", board.placeOf(0, 1), 0);
    }

    @Sentence("A place without coats is read as none, whatever its sign is.")
    static void placeWithoutCoats() {
        TurnedBoards board = Checks.hung("a/a", 73);
        board.set(0, 1);
        board.sign(0, 73);
        int[] read = {board.placeOf(0, 2), board.placeOf(0, 3), board.reads(0, 0), board.reads(1, 0), board.word(0, 1), board.word(1, 1)};
        for (int letter : read) {
            Checks.due("one coat", letter, 0);
        }
        board.pass(1);
        int[] none = {board.placeOf(0, 2), board.placeOf(0, 3), board.reads(0, 0), board.reads(1, 0)};
        for (int letter : none) {
            Checks.due("no coat", letter, Checks.NOT_FOUND);
        }
        Checks.due("the sign is the letter's", board.placeOf(0, 0), 73);
        Checks.due("not read as wanted", board.word(0, 1), 1);
        Checks.due("not read as wanted, turned", board.word(1, 1), 1);
    }

    @Sentence("Turned, the place i is the (places - 1 - i)th one from left to right (from 0), and its sign is read turned.")
    static void placesTurned() {
        String word = "abcdefgh";
        for (int places = 1; places <= 8; places++) {
            TurnedBoards board = Checks.hung(word.substring(0, places) + "/" + word.substring(0, places), TEN);
            for (int place = 0; place < places; place++) {
                board.sign(place, 1 << 14 - place);
            }
            for (int index = 0; index < places; index++) {
                Checks.due(index + " of " + places, board.reads(1, index), places - 1 - index);
                Checks.due("wanted at " + index + " of " + places, board.placeOf(index, 5), places - 1 - index);
            }
            board.gust(99);
            for (int index = 0; index < places; index++) {
                Checks.due("hanging, " + index + " of " + places, board.reads(0, index), places - 1 - index);
            }
        }
    }

    @Sentence("Two words are wanted, both with as many letters as there are places: the word 0 upright, the word 1 turned.")
    static void lettersOfTheWords() {
        TurnedBoards board = Checks.drawn(TEN);
        String text = "abcdefgh/hgfedcbj";
        for (int places = 1; places <= 8; places++) {
            Checks.read(board, text.substring(0, places) + "/" + text.substring(9, 9 + places));
            Checks.due("first letter", board.word(0, 10), 0);
            Checks.due("first letter turned", board.word(1, 10), 7);
            Checks.due("last letter", board.word(0, 10 + places - 1), places - 1);
            Checks.due("last letter turned", board.word(1, 10 + places - 1), places == 8 ? 9 : 8 - places);
            Checks.due("no letter more", board.word(0, 10 + places), Checks.INVALID);
            Checks.due("no letter more turned", board.word(1, 10 + places), Checks.INVALID);
        }
    }

    @Sentence("Two readers look at the board: reader 0 sees it as it hangs, reader 1 sees it the other way round.")
    static void readers() {
        TurnedBoards board = Checks.hung("ab/ab", 7, 28672, 56, 3584);
        board.sign(0, 7);
        board.sign(1, 56);
        int[][] seen = {{0, 2}, {3, 1}};
        for (int turns = 0; turns < 4; turns++) {
            for (int index = 0; index < 2; index++) {
                Checks.due("reader 0, turned " + turns, board.reads(0, index), seen[turns % 2][index]);
                Checks.due("reader 1, turned " + turns, board.reads(1, index), seen[1 - turns % 2][index]);
            }
            Checks.due("no reader below", board.reads(-1, 0), Checks.INVALID);
            Checks.due("no third reader", board.reads(2, 0), Checks.INVALID);
            board.gust(99);
        }
    }
}
