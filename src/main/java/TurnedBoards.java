/** A board with a word that says another word when it is turned. ../shared/DOC.md tells what each call answers. */
public final class TurnedBoards {
    public static final int INVALID_ARGUMENT = -1001;
    public static final int NOT_POSSIBLE = -1002;
    public static final int LIMIT_REACHED = -1003;
    public static final int NOT_FOUND = -1004;

    private static final int ROW = 3;
    private static final int CELLS = 15;
    private static final int SIGNS = 32768;
    private static final int LETTERS = 10;
    private static final int MOST_PLACES = 8;
    private static final int MOST_COATS = 9;
    private static final int MOST_FORCE = 99;
    private static final int MOST_DAYS = 20;
    private static final int LAST_DAY = 9999;
    private static final int MOST_STATES = 4;
    private static final int MOST_CHARACTERS = 30;

    /** No letter, no sign, no fault. */
    private static final int NONE = -1;

    /** The two ways round in which a board is looked at; the words and the settings have numbers 0 and 1, too. */
    private static final int UPRIGHT = 0;
    private static final int TURNED = 1;

    /** The number of the first setting; the other one is that of the cells. */
    private static final int PAINTED_COATS = 0;

    private final Board now;
    private final Board snapshot;
    private final History history;
    private final Script text;
    private final Composer composer;
    private boolean hasSnapshot;

    public TurnedBoards() {
        now = new Board();
        snapshot = new Board();
        history = new History();
        text = new Script();
        composer = new Composer();
        hasSnapshot = false;
    }

    // ---- letters, signs

    public int letter(int letter, int sign) {
        if (!isLetter(letter) || !isSign(sign)) {
            return INVALID_ARGUMENT;
        }
        int owner = now.letters.drawnAs(sign);
        if (owner != NONE && owner != letter) {
            return NOT_POSSIBLE;
        }
        history.push(now);
        int before = now.letters.signFor(letter);
        now.letters.draw(letter, sign);
        return before;
    }

    public int sign(int place, int sign) {
        if (!now.hasPlace(place) || !isSign(sign)) {
            return INVALID_ARGUMENT;
        }
        history.push(now);
        int before = now.signAt(place);
        now.hang(place, sign);
        return before;
    }

    public int compose(int place) {
        if (!now.hasPlace(place)) {
            return INVALID_ARGUMENT;
        }
        if (!findFor(place)) {
            return NOT_POSSIBLE;
        }
        history.push(now);
        now.hang(place, composer.best);
        return composer.best;
    }

    public int composeAll() {
        if (now.places == 0) {
            return NOT_POSSIBLE;
        }
        history.push(now);
        int composed = 0;
        for (int place = 0; place < now.places; place++) {
            if (findFor(place)) {
                now.hang(place, composer.best);
                composed++;
            }
        }
        return composed;
    }

    // ---- paint, hinge, days

    public int paint(int place) {
        if (!now.hasPlace(place)) {
            return INVALID_ARGUMENT;
        }
        int coats = now.coatsAt(place);
        if (coats >= MOST_COATS) {
            return LIMIT_REACHED;
        }
        history.push(now);
        now.coat(place, coats + 1);
        return coats + 1;
    }

    public int gust(int force) {
        if (!isForce(force)) {
            return INVALID_ARGUMENT;
        }
        history.push(now);
        if (force < now.stiffness) {
            return 0;
        }
        now.turnRound();
        return 1;
    }

    public int oil(int stiffness) {
        if (!isForce(stiffness)) {
            return INVALID_ARGUMENT;
        }
        history.push(now);
        int before = now.stiffness;
        now.stiffness = stiffness;
        return before;
    }

    public int pass(int days) {
        if (days < 1 || days > MOST_DAYS) {
            return INVALID_ARGUMENT;
        }
        if (now.day + days > LAST_DAY) {
            return LIMIT_REACHED;
        }
        history.push(now);
        int lost = 0;
        for (int passed = 0; passed < days; passed++) {
            lost += now.fadeOneDay();
        }
        return lost;
    }

    public int set(int what, int value) {
        if (!isOneOfTwo(what) || value > MOST_COATS || value < (what == PAINTED_COATS ? 1 : 0)) {
            return INVALID_ARGUMENT;
        }
        history.push(now);
        int before = now.setting(what);
        now.changeSetting(what, value);
        return before;
    }

    // ---- what there is

    public int letterOf(int letter, int what) {
        if (!isLetter(letter) || what < 0 || what > 5) {
            return INVALID_ARGUMENT;
        }
        if (what == 5) {
            return now.timesWanted(letter);
        }
        if (!now.letters.has(letter)) {
            return NOT_FOUND;
        }
        int drawn = now.letters.signFor(letter);
        switch (what) {
            case 0:
                return drawn;
            case 1:
                return Signs.turn(drawn);
            case 2:
                return Integer.bitCount(drawn);
            case 3:
                return foundOrNot(now.letters.nearest(Signs.turn(drawn), NONE));
            default:
                return foundOrNot(now.letters.nearest(drawn, letter));
        }
    }

    public int placeOf(int place, int what) {
        if (!now.hasPlace(place)) {
            return INVALID_ARGUMENT;
        }
        switch (what) {
            case 0:
                return now.signAt(place);
            case 1:
                return now.coatsAt(place);
            case 2:
                return foundOrNot(now.readAt(place, UPRIGHT));
            case 3:
                return foundOrNot(now.readAt(place, TURNED));
            case 4:
                return now.wantedAt(place, UPRIGHT);
            case 5:
                return now.wantedAt(place, TURNED);
            case 6:
                return marginOrNot(place, UPRIGHT);
            case 7:
                return marginOrNot(place, TURNED);
            default:
                return INVALID_ARGUMENT;
        }
    }

    public int reads(int reader, int index) {
        if (!isOneOfTwo(reader) || index < 0) {
            return INVALID_ARGUMENT;
        }
        if (index >= now.places) {
            return NOT_FOUND;
        }
        int way = reader == 0 ? now.way() : otherWay(now.way());
        return foundOrNot(now.readAt(now.fromLeft(index, way), way));
    }

    public int word(int word, int what) {
        if (!isOneOfTwo(word)) {
            return INVALID_ARGUMENT;
        }
        switch (what) {
            case 0:
                return asNumber(now.misread(word) == 0);
            case 1:
                return now.misread(word);
            case 2:
                return asNumber(now.way() == word);
            default:
                return what < 10 || what - 10 >= now.places ? INVALID_ARGUMENT : now.letterIn(word, what - 10);
        }
    }

    public int count(int what) {
        switch (what) {
            case 0:
                return now.places;
            case 1:
                return now.letters.asSet();
            case 2:
                return asNumber(now.turned);
            case 3:
                return now.stiffness;
            case 4:
                return now.day;
            case 5:
                return now.turns;
            case 6:
                return now.allCoats();
            case 7:
                return now.placesWithCoats();
            case 8:
                return history.size;
            case 9:
                return text.length;
            case 10:
                return asNumber(hasSnapshot);
            case 20:
            case 21:
                return now.setting(what - 20);
            default:
                return INVALID_ARGUMENT;
        }
    }

    // ---- what would be

    public int composed(int one, int other, int what) {
        if (!isLetter(one) || !isLetter(other) || what < 0 || what > 2) {
            return INVALID_ARGUMENT;
        }
        if (!now.letters.has(one) || !now.letters.has(other)) {
            return NOT_POSSIBLE;
        }
        if (what == 2) {
            return Integer.bitCount(now.letters.signFor(one) ^ Signs.turn(now.letters.signFor(other)));
        }
        if (!composer.find(now.letters, one, other)) {
            return NOT_FOUND;
        }
        return what == 0 ? composer.best : composer.bestLesser;
    }

    public int goesWith(int letter) {
        if (!isLetter(letter)) {
            return INVALID_ARGUMENT;
        }
        if (!now.letters.has(letter)) {
            return NOT_POSSIBLE;
        }
        int partner = NONE;
        int lesser = NONE;
        for (int other = 0; other < LETTERS; other++) {
            if (composer.find(now.letters, letter, other) && composer.bestLesser > lesser) {
                partner = other;
                lesser = composer.bestLesser;
            }
        }
        return foundOrNot(partner);
    }

    public int quality() {
        if (now.places == 0) {
            return NOT_FOUND;
        }
        int sum = 0;
        for (int place = 0; place < now.places; place++) {
            sum += marginOrZero(place, UPRIGHT) + marginOrZero(place, TURNED);
        }
        return bitsOf((float) sum / (float) (2 * now.places));
    }

    public int bareIn() {
        int least = MOST_COATS + 1;
        for (int place = 0; place < now.places; place++) {
            if (now.fades(place)) {
                least = Math.min(least, now.coatsAt(place));
            }
        }
        return least > MOST_COATS ? NOT_FOUND : least;
    }

    // ---- snapshot, undo

    public int keep() {
        snapshot.copyFrom(now);
        hasSnapshot = true;
        return now.places;
    }

    public int restore() {
        if (!hasSnapshot) {
            return NOT_POSSIBLE;
        }
        history.push(now);
        now.copyFrom(snapshot);
        return now.places;
    }

    public int undo() {
        if (history.size == 0) {
            return NOT_POSSIBLE;
        }
        history.popInto(now);
        return history.size;
    }

    // ---- texts

    public int type(int character) {
        if (character < 32 || character > 126) {
            return INVALID_ARGUMENT;
        }
        if (text.length >= MOST_CHARACTERS) {
            return LIMIT_REACHED;
        }
        text.append((char) character);
        return text.length;
    }

    public int clearText() {
        int before = text.length;
        text.length = 0;
        return before;
    }

    public int fault(int what) {
        if (!isOneOfTwo(what)) {
            return INVALID_ARGUMENT;
        }
        int code = text.faultCode(now.letters);
        if (code == NONE) {
            return NOT_FOUND;
        }
        return what == 0 ? Script.placeIn(code) : Script.reasonIn(code);
    }

    public int read() {
        if (text.faultCode(now.letters) != NONE) {
            return NOT_POSSIBLE;
        }
        history.push(now);
        now.renew(text.firstLength());
        for (int index = 0; index < now.places; index++) {
            Rows.put(now.uprightWord, index, text.letterAt(index));
            Rows.put(now.turnedWord, index, text.letterAt(now.places + 1 + index));
        }
        return now.places;
    }

    // ---- what several calls use

    private boolean findFor(int place) {
        return composer.find(now.letters, now.wantedAt(place, UPRIGHT), now.wantedAt(place, TURNED));
    }

    private int marginOrNot(int place, int way) {
        return now.letters.has(now.wantedAt(place, way)) ? now.marginAt(place, way) : NOT_FOUND;
    }

    private int marginOrZero(int place, int way) {
        return now.letters.has(now.wantedAt(place, way)) ? now.marginAt(place, way) : 0;
    }

    private static boolean isLetter(int letter) {
        return letter >= 0 && letter < LETTERS;
    }

    private static boolean isSign(int sign) {
        return sign >= 0 && sign < SIGNS;
    }

    private static boolean isForce(int force) {
        return force >= 1 && force <= MOST_FORCE;
    }

    private static boolean isOneOfTwo(int what) {
        return what == 0 || what == 1;
    }

    private static int otherWay(int way) {
        return way == UPRIGHT ? TURNED : UPRIGHT;
    }

    private static int asNumber(boolean holds) {
        return holds ? 1 : 0;
    }

    private static int foundOrNot(int found) {
        return found == NONE ? NOT_FOUND : found;
    }

    /**
     * The bits of a float of 2 to the power of -16 up to 2 to the power of 16, or of 0. The language has no call for
     * them; halving and doubling lose nothing.
     */
    private static int bitsOf(float value) {
        if (value == 0f) {
            return 0;
        }
        float size = value < 0f ? -value : value;
        int exponent = 127;
        for (int step = 0; step < 16 && size >= 2f; step++) {
            size = size / 2f;
            exponent++;
        }
        for (int step = 0; step < 16 && size < 1f; step++) {
            size = size * 2f;
            exponent--;
        }
        int fraction = (int) ((size - 1f) * 8388608f);
        return (value < 0f ? 1 << 31 : 0) | exponent << 23 | fraction;
    }

    /** Rows of numbers whose index is looked at before it is used. */
    private static final class Rows {
        private Rows() {
        }

        static int at(int[] row, int index) {
            return row != null && index >= 0 && index < row.length ? row[index] : NONE;
        }

        static void put(int[] row, int index, int value) {
            if (row != null && index >= 0 && index < row.length) {
                row[index] = value;
            }
        }

        static void fill(int[] row, int value) {
            if (row != null) {
                for (int index = 0; index < row.length; index++) {
                    row[index] = value;
                }
            }
        }

        static void copy(int[] from, int[] to) {
            if (from != null && to != null) {
                for (int index = 0; index < from.length && index < to.length; index++) {
                    to[index] = from[index];
                }
            }
        }
    }

    /** What is told of signs without letters. */
    private static final class Signs {
        private static final int UPPER_ROWS = 511;

        private Signs() {
        }

        /** Mirrors 16 bits by swapping ever larger parts; the one too many falls out at the lower end. */
        static int turn(int sign) {
            int mirrored = (sign & 0x5555) << 1 | sign >>> 1 & 0x5555;
            mirrored = (mirrored & 0x3333) << 2 | mirrored >>> 2 & 0x3333;
            mirrored = (mirrored & 0x0f0f) << 4 | mirrored >>> 4 & 0x0f0f;
            mirrored = (mirrored & 0x00ff) << 8 | mirrored >>> 8 & 0x00ff;
            return mirrored >>> 1;
        }

        static int seen(int sign, int way) {
            return way == UPRIGHT ? sign : turn(sign);
        }

        static int darkInUpperRows(int sign, int way) {
            return Integer.bitCount((way == UPRIGHT ? sign : sign >>> 2 * ROW) & UPPER_ROWS);
        }
    }

    /** The letters and the signs as which they are drawn. */
    private static final class Letters {
        private final int[] drawn = new int[LETTERS];

        Letters() {
            for (int letter = 0; letter < drawn.length; letter++) {
                drawn[letter] = NONE;
            }
        }

        int signFor(int letter) {
            return letter >= 0 && letter < drawn.length ? drawn[letter] : NONE;
        }

        boolean has(int letter) {
            return signFor(letter) != NONE;
        }

        void draw(int letter, int sign) {
            Rows.put(drawn, letter, sign);
        }

        int drawnAs(int sign) {
            for (int letter = 0; letter < drawn.length; letter++) {
                if (drawn[letter] == sign) {
                    return letter;
                }
            }
            return NONE;
        }

        int asSet() {
            int set = 0;
            for (int letter = 0; letter < drawn.length; letter++) {
                if (drawn[letter] != NONE) {
                    set |= 1 << letter;
                }
            }
            return set;
        }

        /** The drawn letter that is nearest to the sign, of several the lowest, the excepted one left out. */
        int nearest(int sign, int excepted) {
            int nearest = NONE;
            int least = CELLS + 1;
            for (int letter = 0; letter < drawn.length; letter++) {
                int distance = Integer.bitCount(sign ^ drawn[letter]);
                if (letter != excepted && drawn[letter] != NONE && distance < least) {
                    nearest = letter;
                    least = distance;
                }
            }
            return nearest;
        }

        int marginOf(int sign, int letter) {
            int least = CELLS;
            for (int rival = 0; rival < drawn.length; rival++) {
                if (rival != letter && drawn[rival] != NONE) {
                    least = Math.min(least, Integer.bitCount(sign ^ drawn[rival]));
                }
            }
            return least - Integer.bitCount(sign ^ signFor(letter));
        }

        /** The margin if the sign is read as the letter (it is not below 0 then), otherwise NONE, which is below. */
        int leadOf(int sign, int letter) {
            int margin = marginOf(sign, letter);
            return margin > 0 || margin == 0 && nearest(sign, NONE) == letter ? margin : NONE;
        }

        void copyFrom(Letters other) {
            if (other != null) {
                Rows.copy(other.drawn, drawn);
            }
        }
    }

    /** Finds the composed sign of two letters. */
    private static final class Composer {
        private Letters letters;
        private int one;
        private int other;
        private int oneUpright;
        private int otherTurned;
        private int best;
        private int bestLesser;

        boolean find(Letters among, int upright, int turned) {
            best = NONE;
            bestLesser = NONE;
            if (among == null || !among.has(upright) || !among.has(turned)) {
                return false;
            }
            letters = among;
            one = upright;
            other = turned;
            oneUpright = among.signFor(upright);
            otherTurned = Signs.turn(among.signFor(turned));
            settle(CELLS - 1, 0);
            return best != NONE;
        }

        /**
         * Settles the cells from this one down, light before dark, so that of equally good signs the lowest comes
         * first. The cells above are settled. Each margin is greatest if all the cells that are open yet are as this
         * letter has them; where even so the sign is no better than the best one, none that begins like it is tried.
         */
        private void settle(int cell, int settled) {
            if (cell >= CELLS || letters == null) {
                return;
            }
            int open = (1 << cell + 1) - 1;
            int lesser = letters.leadOf(settled | oneUpright & open, one);
            if (lesser > bestLesser) {
                lesser = Math.min(lesser, letters.leadOf(Signs.turn(settled | otherTurned & open), other));
            }
            if (lesser <= bestLesser) {
                return;
            }
            if (cell < 0) {
                best = settled;
                bestLesser = lesser;
                return;
            }
            settleAs(cell, settled, 0);
            settleAs(cell, settled, 1);
        }

        private void settleAs(int cell, int settled, int dark) {
            if ((oneUpright >>> cell & 1) == dark || (otherTurned >>> cell & 1) == dark) {
                settle(cell - 1, settled | dark << cell);
            }
        }
    }

    /** Everything that a state of the history holds. */
    private static final class Board {
        private final Letters letters = new Letters();
        private final int[] signs = new int[MOST_PLACES];
        private final int[] coats = new int[MOST_PLACES];
        private final int[] uprightWord = new int[MOST_PLACES];
        private final int[] turnedWord = new int[MOST_PLACES];
        private int paintedCoats = 4;
        private int fadingCells = 3;
        private int places = 0;
        private boolean turned = false;
        private int stiffness = 20;
        private int day = 0;
        private int turns = 0;

        void copyFrom(Board other) {
            if (other == null) {
                return;
            }
            letters.copyFrom(other.letters);
            Rows.copy(other.signs, signs);
            Rows.copy(other.coats, coats);
            Rows.copy(other.uprightWord, uprightWord);
            Rows.copy(other.turnedWord, turnedWord);
            paintedCoats = other.paintedCoats;
            fadingCells = other.fadingCells;
            places = other.places;
            turned = other.turned;
            stiffness = other.stiffness;
            day = other.day;
            turns = other.turns;
        }

        /** The hinge, the days and the settings are no part of what a text tells: they stay. */
        void renew(int newPlaces) {
            places = newPlaces;
            turned = false;
            Rows.fill(signs, 0);
            Rows.fill(coats, 0);
        }

        boolean hasPlace(int place) {
            return place >= 0 && place < places;
        }

        int signAt(int place) {
            return Rows.at(signs, place);
        }

        int coatsAt(int place) {
            return Rows.at(coats, place);
        }

        int setting(int what) {
            return what == PAINTED_COATS ? paintedCoats : fadingCells;
        }

        void changeSetting(int what, int value) {
            if (what == PAINTED_COATS) {
                paintedCoats = value;
            } else {
                fadingCells = value;
            }
        }

        void coat(int place, int number) {
            Rows.put(coats, place, number);
        }

        void hang(int place, int sign) {
            Rows.put(signs, place, sign);
            coat(place, paintedCoats);
        }

        int way() {
            return turned ? TURNED : UPRIGHT;
        }

        void turnRound() {
            turned = !turned;
            turns++;
            stiffness = Math.max(1, stiffness - 1);
        }

        /** The place at an index from the left and, the other way about, the index of a place. */
        int fromLeft(int index, int way) {
            return way == UPRIGHT ? index : places - 1 - index;
        }

        int letterIn(int word, int index) {
            return Rows.at(word == UPRIGHT ? uprightWord : turnedWord, index);
        }

        int wantedAt(int place, int way) {
            return letterIn(way, fromLeft(place, way));
        }

        int readAt(int place, int way) {
            return coatsAt(place) > 0 ? letters.nearest(Signs.seen(signAt(place), way), NONE) : NONE;
        }

        int marginAt(int place, int way) {
            return letters.marginOf(Signs.seen(signAt(place), way), wantedAt(place, way));
        }

        int misread(int way) {
            int misread = 0;
            for (int place = 0; place < places; place++) {
                if (readAt(place, way) != wantedAt(place, way)) {
                    misread++;
                }
            }
            return misread;
        }

        int timesWanted(int letter) {
            int times = 0;
            for (int index = 0; index < places; index++) {
                times += letterIn(UPRIGHT, index) == letter ? 1 : 0;
                times += letterIn(TURNED, index) == letter ? 1 : 0;
            }
            return times;
        }

        int allCoats() {
            int sum = 0;
            for (int place = 0; place < places; place++) {
                sum += coatsAt(place);
            }
            return sum;
        }

        int placesWithCoats() {
            int number = 0;
            for (int place = 0; place < places; place++) {
                number += coatsAt(place) > 0 ? 1 : 0;
            }
            return number;
        }

        boolean fades(int place) {
            return coatsAt(place) > 0 && Signs.darkInUpperRows(signAt(place), way()) >= fadingCells;
        }

        int fadeOneDay() {
            int lost = 0;
            for (int place = 0; place < places; place++) {
                if (fades(place)) {
                    coat(place, coatsAt(place) - 1);
                    lost++;
                }
            }
            day++;
            return lost;
        }
    }

    /** The states before the latest changes, the oldest first; the boards are used again. */
    private static final class History {
        private final Board[] states = new Board[MOST_STATES];
        private int size = 0;

        History() {
            for (int index = 0; index < states.length; index++) {
                states[index] = new Board();
            }
        }

        void push(Board board) {
            if (size >= states.length) {
                moveOldestToEnd();
                size = states.length - 1;
            }
            Board state = size >= 0 && size < states.length ? states[size] : null;
            if (state != null) {
                state.copyFrom(board);
                size++;
            }
        }

        private void moveOldestToEnd() {
            if (states.length == 0) {
                return;
            }
            Board oldest = states[0];
            for (int index = 1; index < states.length; index++) {
                states[index - 1] = states[index];
            }
            states[states.length - 1] = oldest;
        }

        void popInto(Board board) {
            if (board != null && size > 0 && size <= states.length) {
                size--;
                board.copyFrom(states[size]);
            }
        }
    }

    /** The text of two words. A fault is told as one number: ten times its place, and its reason. */
    private static final class Script {
        private static final int WRONG_CHARACTER = 1;
        private static final int NINTH_LETTER = 2;
        private static final int NOT_DRAWN = 3;

        private final int[] characters = new int[MOST_CHARACTERS];
        private int length = 0;

        static int placeIn(int code) {
            return code / 10;
        }

        static int reasonIn(int code) {
            return code % 10;
        }

        private static int codeOf(int place, int reason) {
            return 10 * place + reason;
        }

        void append(char character) {
            if (length >= 0 && length < characters.length) {
                characters[length] = character;
                length++;
            }
        }

        /** The letter at an index of the text; NONE for another character, and behind the end. */
        int letterAt(int index) {
            int letter = index < length ? Rows.at(characters, index) - 'a' : NONE;
            return letter >= 0 && letter < LETTERS ? letter : NONE;
        }

        private boolean isSlash(int index) {
            return index < length && Rows.at(characters, index) == '/';
        }

        private int lettersFrom(int start) {
            int end = start;
            while (end < length && letterAt(end) != NONE) {
                end++;
            }
            return end - start;
        }

        int firstLength() {
            return lettersFrom(0);
        }

        int faultCode(Letters letters) {
            int code = formFault();
            return code == NONE ? undrawnFault(letters) : code;
        }

        private int formFault() {
            int first = firstLength();
            if (first > MOST_PLACES) {
                return codeOf(MOST_PLACES, NINTH_LETTER);
            }
            if (first == 0 || !isSlash(first)) {
                return codeOf(first, WRONG_CHARACTER);
            }
            int second = lettersFrom(first + 1);
            int end = first + 1 + Math.min(first, second);
            return second == first && end == length ? NONE : codeOf(end, WRONG_CHARACTER);
        }

        private int undrawnFault(Letters letters) {
            for (int index = 0; index < length; index++) {
                int letter = letterAt(index);
                if (letter != NONE && letters != null && !letters.has(letter)) {
                    return codeOf(index, NOT_DRAWN);
                }
            }
            return NONE;
        }
    }
}
