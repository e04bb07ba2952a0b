/** The document's "Composing", "The hinge, days", "Settings" and "Texts": a test of each sentence that names a boundary case. */
public final class RulesBoundsTest {
    private static final int TOP_ROW = 7;
    private static final int TWO_LOWER_ROWS = 32256;

    public static void main(String[] args) throws ReflectiveOperationException {
        Sentences.testAll(RulesBoundsTest.class);
    }

    @Sentence("The signs between two letters a and b (both drawn, perhaps the same) are those that have, in each cell, "
        + "what the sign of a has there or what the sign of b turned has there.")
    static void signsBetween() {
        TurnedBoards board = Checks.drawn(0, 32767, 127, 73);
        Checks.due("but one between", board.composed(0, 0, 2), 0);
        Checks.due("that one", board.composed(0, 0, 0), 0);
        Checks.due("but one between, dark", board.composed(1, 1, 0), 32767);
        Checks.due("every sign between", board.composed(0, 1, 2), 15);
        Checks.due("every sign but the middle cell", board.composed(2, 2, 2), 14);
        Checks.due("the first not drawn", board.composed(9, 0, 2), Checks.NOT_POSSIBLE);
        Checks.due("the other not drawn", board.composed(0, 9, 2), Checks.NOT_POSSIBLE);
        Checks.due("none drawn", board.composed(9, 9, 2), Checks.NOT_POSSIBLE);
        int[] turned = {0, 32767, 32512, 18688};
        for (int one = 0; one < 4; one++) {
            for (int other = 0; other < 4; other++) {
                int sign = board.composed(one, other, 0);
                int outside = (sign ^ board.letterOf(one, 0)) & (sign ^ turned[other]);
                Checks.due("between " + one + " and " + other, sign < 0 ? 0 : outside, 0);
            }
        }
    }

    @Sentence("Of these the composed one is that which is read as a upright and as b turned")
    static void readAsBoth() {
        TurnedBoards board = Checks.drawn(0, 1, 24576);
        Checks.due("margin 0 upright, the lower letter is read", board.composed(0, 1, 0), 16384);
        board = Checks.drawn(24576, 0, 1);
        Checks.due("margin 0 upright, the higher letter is not read", board.composed(1, 2, 0), Checks.NOT_FOUND);
        board = Checks.drawn(0, 1, 128);
        Checks.due("margin 0 turned, the lower letter is read", board.composed(1, 2, 0), 129);
        board = Checks.drawn(0, 128, 1);
        Checks.due("margin 0 turned, the higher letter is not read", board.composed(2, 1, 0), Checks.NOT_FOUND);
    }

    @Sentence("for which the lesser of both margins (upright for a, turned for b) is the greatest, of several that with the lowest number")
    static void greatestThenLowest() {
        // of 7 cells unlike each way the margins are 8 and 8; of the many signs that have them 0 is the lowest
        TurnedBoards board = Checks.drawn(127);
        Checks.due("of several the lowest", board.composed(0, 0, 0), 0);
        Checks.due("of several the lowest", board.composed(0, 0, 1), 8);
        // all four signs between are read as wanted; 0 and 1 are lower than 16385, but have a lesser margin
        board = Checks.drawn(1, 2);
        Checks.due("the greatest rather than the lowest", board.composed(0, 0, 0), 16385);
        Checks.due("the greatest rather than the lowest", board.composed(0, 0, 1), 2);
        // the letter's own sign, which is the same when it is turned, and no other letter
        board = Checks.drawn(0);
        Checks.due("as great as can be", board.composed(0, 0, 1), 15);
    }

    @Sentence("there may be none.")
    static void noComposedSign() {
        TurnedBoards board = Checks.hung("a/b", 0, 32767);
        Checks.due("sign", board.composed(0, 1, 0), Checks.NOT_FOUND);
        Checks.due("margin", board.composed(0, 1, 1), Checks.NOT_FOUND);
        Checks.due("place", board.compose(0), Checks.NOT_POSSIBLE);
        Checks.due("all places", board.composeAll(), 0);
    }

    @Sentence("its sign becomes the composed one of the letter i of the word 0 and the letter (places - 1 - i) of the word 1, "
        + "and it has the coats of setting 0 then.")
    static void composingAPlace() {
        int[] signs = {1, 2, 4, 32, 64, 256};
        int[] turned = {16384, 8192, 4096, 512, 256, 64};
        TurnedBoards board = Checks.hung("abc/def", signs);
        for (int place = 0; place < 3; place++) {
            int due = board.composed(place, 5 - place, 0);
            Checks.due("first, middle, last", board.compose(place), due);
            Checks.due("between both", (due ^ signs[place]) & (due ^ turned[5 - place]), 0);
            Checks.due("read upright", board.placeOf(place, 2), place);
            Checks.due("read turned", board.placeOf(place, 3), 5 - place);
        }
        for (int coats = 1; coats <= 9; coats += 8) {
            board.set(0, 10 - coats);
            board.sign(1, 0);
            board.set(0, coats);
            board.compose(1);
            Checks.due("neither more nor fewer coats", board.placeOf(1, 1), coats);
        }
    }

    @Sentence("The board hangs upright at first.")
    static void uprightAtFirst() {
        TurnedBoards board = new TurnedBoards();
        Checks.due("not turned", board.count(2), 0);
        Checks.due("the word 0", board.word(0, 2), 1);
        Checks.due("not the word 1", board.word(1, 2), 0);
    }

    @Sentence("A gust has a force (1 to 99); if it is at least the stiffness of the hinge (20 at first), the board turns")
    static void forceAndStiffness() {
        TurnedBoards board = new TurnedBoards();
        Checks.due("20 at first", board.count(3), 20);
        Checks.due("weaker", board.gust(19), 0);
        Checks.due("not turned", board.count(2), 0);
        Checks.due("as strong", board.gust(20), 1);
        Checks.due("turned", board.count(2), 1);
        int[] all = {1, 2, 50, 98, 99};
        for (int stiffness : all) {
            board.oil(stiffness);
            int hung = board.count(2);
            Checks.due("weaker than " + stiffness, board.gust(stiffness - 1), stiffness == 1 ? Checks.INVALID : 0);
            Checks.due("as stiff as before", board.count(3), stiffness);
            Checks.due("hangs as before", board.count(2), hung);
            Checks.due("as strong as " + stiffness, board.gust(stiffness), 1);
            Checks.due("hangs otherwise", board.count(2), 1 - hung);
        }
        board.oil(99);
        Checks.due("the strongest", board.gust(99), 1);
        board.oil(1);
        Checks.due("the strongest", board.gust(99), 1);
        Checks.due("no force", board.gust(0), Checks.INVALID);
        Checks.due("too much force", board.gust(100), Checks.INVALID);
    }

    @Sentence("and the stiffness becomes less by 1 (not below 1).")
    static void stiffnessBecomesLess() {
        TurnedBoards board = new TurnedBoards();
        board.oil(3);
        for (int due : new int[] {2, 1, 1, 1}) {
            board.gust(99);
            Checks.due("after a gust", board.count(3), due);
        }
        Checks.due("the weakest turns it", board.gust(1), 1);
        board.oil(99);
        board.gust(99);
        Checks.due("from the stiffest", board.count(3), 98);
    }

    @Sentence("When a day passes, each place loses a coat, if it has one")
    static void noCoatBelowNone() {
        TurnedBoards board = Checks.hung("aaa/aaa", TOP_ROW);
        board.set(1, 0);
        board.paint(0);
        board.set(0, 9);
        board.sign(1, TOP_ROW);
        Checks.due("two have one", board.pass(1), 2);
        Checks.due("the last one", board.placeOf(0, 1), 0);
        Checks.due("one has one", board.pass(1), 1);
        Checks.due("none to lose", board.placeOf(0, 1), 0);
        Checks.due("never had one", board.placeOf(2, 1), 0);
        Checks.due("more days than coats", board.pass(20), 7);
        Checks.due("none to lose", board.placeOf(1, 1), 0);
        Checks.due("none anywhere", board.pass(1), 0);
    }

    @Sentence("its sign has at least setting 1 dark cells in its three upper rows")
    static void darkEnough() {
        TurnedBoards board = Checks.hung("a/a", 0);
        for (int dark = 0; dark <= 9; dark++) {
            board.set(1, dark);
            board.sign(0, (1 << dark) - 1);
            Checks.due("just " + dark, board.pass(1), 1);
            if (dark > 0) {
                board.sign(0, (1 << dark - 1) - 1 | TWO_LOWER_ROWS);
                Checks.due("one fewer than " + dark, board.pass(1), 0);
            }
        }
        board.set(1, 8);
        board.sign(0, 511);
        Checks.due("one more than 8", board.pass(1), 1);
        board = Checks.hung("a/a", 0);
        board.sign(0, 3);
        Checks.due("2 of the 3 at first", board.pass(1), 0);
        board.sign(0, 7);
        Checks.due("3 of the 3 at first", board.pass(1), 1);
    }

    @Sentence("in its three upper rows as it hangs (rows 0 to 2 upright, rows 2 to 4 turned).")
    static void upperRows() {
        TurnedBoards board = Checks.hung("a/a", 0);
        board.set(1, 1);
        for (int cell = 0; cell < 15; cell++) {
            board.sign(0, 1 << cell);
            Checks.due("upright, cell " + cell, board.pass(1), cell / 3 <= 2 ? 1 : 0);
        }
        board.gust(99);
        for (int cell = 0; cell < 15; cell++) {
            board.sign(0, 1 << cell);
            Checks.due("turned, cell " + cell, board.pass(1), cell / 3 >= 2 ? 1 : 0);
        }
    }

    @Sentence("The settings are (in parentheses: range; first value): 0 coats that are painted (1 to 9; 4), "
        + "1 how many dark cells make it fade (0 to 9; 3).")
    static void settings() {
        TurnedBoards board = new TurnedBoards();
        Checks.due("0 at first", board.count(20), 4);
        Checks.due("1 at first", board.count(21), 3);
        int[][] calls = {{0, 1, 4}, {0, 9, 1}, {1, 0, 3}, {1, 9, 0}, {1, 1, 9}};
        for (int[] call : calls) {
            Checks.due("within", board.set(call[0], call[1]), call[2]);
            Checks.due("set", board.count(20 + call[0]), call[1]);
        }
        int[][] outside = {{0, 0}, {0, 10}, {0, -1}, {1, -1}, {1, 10}, {-1, 3}, {2, 3}};
        for (int[] call : outside) {
            Checks.due("outside", board.set(call[0], call[1]), Checks.INVALID);
        }
        Checks.due("0 stays", board.count(20), 9);
        Checks.due("1 stays", board.count(21), 1);
    }

    @Sentence("There is a text of at most 30 characters, initially empty.")
    static void lengthOfTheText() {
        TurnedBoards board = new TurnedBoards();
        Checks.due("at first", board.count(9), 0);
        for (int length = 1; length <= 30; length++) {
            Checks.due("typed", board.type(' '), length);
        }
        Checks.due("the 31st", board.type(' '), Checks.LIMIT);
        Checks.due("full", board.count(9), 30);
        Checks.due("cleared", board.clearText(), 30);
        Checks.due("empty again", board.count(9), 0);
        Checks.due("typed again", board.type(' '), 1);
    }

    private static void fault(String text, int place, int reason) {
        TurnedBoards board = Checks.typed(text, 1, 2);
        Checks.due("place in " + text, board.fault(0), place);
        Checks.due("reason in " + text, board.fault(1), reason);
    }

    private static void noFault(String text) {
        fault(text, Checks.NOT_FOUND, Checks.NOT_FOUND);
    }

    @Sentence("It tells both words: 1 to 8 letters, \"/\", and as many letters.")
    static void twoWords() {
        noFault("a/b");
        noFault("ab/ba");
        noFault("abababa/bababab");
        noFault("abababab/babababa");
        fault("/", 0, 1);
        fault("/a", 0, 1);
        fault("ababababa/ababababa", 8, 2);
        fault("a-a", 1, 1);
        fault("a a", 1, 1);
        fault("a\\a", 1, 1);
        fault("a//a", 2, 1);
    }

    @Sentence("Its fault is told by a place and a reason, the one with the lowest place")
    static void lowestPlace() {
        fault("-+", 0, 1);
        fault("a-a", 1, 1);
        fault("zaaaaaaaaa", 0, 1);
        fault("aaaaaaazaa", 7, 1);
        fault("aaaaaaaaaz", 8, 2);
        fault("aaaaaaaaa/", 8, 2);
        fault("aaaaaaaaaaaaaaaaaaaaaaaaaaaaaa", 8, 2);
        fault("a/a/z", 3, 1);
        fault("a/zz", 2, 1);
    }

    @Sentence("1: a character that cannot stand at its place (its index")
    static void aCharacterThatCannotStand() {
        fault(" ", 0, 1);
        fault("~", 0, 1);
        fault("`", 0, 1);
        fault("k", 0, 1);
        fault("A/a", 0, 1);
        fault("a/k", 2, 1);
        fault("a/`", 2, 1);
        fault("a//", 2, 1);
        fault("a.a", 1, 1);
        fault("a0a", 1, 1);
        fault("aaaaaaaa.", 8, 1);
        fault("aaaaaaaak", 8, 1);
        fault("aaaaaaaa/aaaaaaa/", 16, 1);
        fault("a/a/", 3, 1);
        fault("a/a ", 3, 1);
    }

    @Sentence("also of a letter behind as many as the first word has")
    static void aLetterTooMany() {
        fault("a/ab", 3, 1);
        fault("ab/abab", 5, 1);
        fault("aaaaaaaa/aaaaaaaaa", 17, 1);
        fault("aaaaaaaa/aaaaaaaaaaaaaaaaaaaaa", 17, 1);
    }

    @Sentence("the length of the text if it ends too early")
    static void endsTooEarly() {
        fault("", 0, 1);
        fault("a", 1, 1);
        fault("aaaaaaaa", 8, 1);
        fault("a/", 2, 1);
        fault("ab/", 3, 1);
        fault("ab/a", 4, 1);
        fault("aaaaaaaa/", 9, 1);
        fault("aaaaaaaa/aaaaaaa", 16, 1);
        TurnedBoards board = Checks.typed("a/a", 1);
        board.clearText();
        Checks.due("though another one was there", board.fault(0), 0);
        board.type('a');
        Checks.due("though the slash of another one was there", board.fault(0), 1);
        board.type('/');
        Checks.due("though the letter of another one was there", board.fault(0), 2);
    }

    @Sentence("2: the ninth letter of the first word.")
    static void theNinthLetter() {
        fault("aaaaaaaaa", 8, 2);
        fault("aaaaaaaab", 8, 2);
        fault("aaaaaaaaa/aaaaaaaaa", 8, 2);
        fault("aaaaaaaaaa", 8, 2);
        fault("aaaaaaaaj", 8, 2);
        fault("aaaaaaaa", 8, 1);
        fault("aaaaaaaa/aaaaaaaaa", 17, 1);
    }

    @Sentence("If there is none of these: 3: the first letter that is not drawn (its index).")
    static void aLetterThatIsNotDrawn() {
        fault("c/a", 0, 3);
        fault("a/c", 2, 3);
        fault("ac/cc", 1, 3);
        fault("ab/cj", 3, 3);
        fault("abababab/abababaj", 16, 3);
        fault("cccccccc/cccccccc", 0, 3);
        fault("c", 1, 1);
        fault("c/", 2, 1);
        fault("c/cc", 3, 1);
        fault("cz", 1, 1);
        fault("ccccccccc", 8, 2);
        noFault("a/b");
    }
}
