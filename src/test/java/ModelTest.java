import java.util.Random;

/** All promises: long runs of calls, right and wrong ones, each answered by TurnedBoards and by the model alike. */
public final class ModelTest {
    private static final int RUNS = 240;
    private static final int CALLS = 512;
    private static final int[] FEW_CELLS = {0, 1, 2, 3, 4, 5, 6, 7, 9, 73, 128, 256, 448, 8192, 16384, 24576, 28672, 129};

    private final Random random;
    private final TurnedBoards board = new TurnedBoards();
    private final Model model = new Model();
    private final int run;
    private int calls = 0;

    private ModelTest(int run) {
        this.run = run;
        random = new Random(run);
    }

    public static void main(String[] args) {
        for (int run = 0; run < RUNS; run++) {
            new ModelTest(run).play();
        }
        Checks.end("ModelTest");
    }

    private void play() {
        int letters = random.nextInt(11);
        for (int letter = 0; letter < letters; letter++) {
            call(0, letter, aSign(), 0);
        }
        while (calls < CALLS) {
            if (random.nextInt(model.count(0) == 0 ? 3 : 40) == 0) {
                typeWords();
            }
            int method = random.nextInt(25);
            call(method, isOfPlace(method) ? aPlace() : argument(), argument(), argument());
            if (random.nextInt(12) == 0) {
                tell();
            }
        }
    }

    private static boolean isOfPlace(int method) {
        return method == 1 || method == 2 || method == 4 || method == 11;
    }

    private int aPlace() {
        return random.nextInt(8) == 0 ? argument() : random.nextInt(model.count(0) + 1);
    }

    /** A letter that is drawn, if there is one, but for a few. */
    private char aLetter() {
        int letter = random.nextInt(10);
        for (int step = 0; step < 10 && random.nextInt(100) > 0; step++) {
            if ((model.count(1) >> letter & 1) == 1) {
                break;
            }
            letter = (letter + 1) % 10;
        }
        return (char) ('a' + letter);
    }

    /** Mostly numbers that most calls take. */
    private int argument() {
        int kind = random.nextInt(40);
        if (kind == 0) {
            int[] far = {Integer.MIN_VALUE, Integer.MAX_VALUE, -1, 32767, 32768, -1004, 65536, 99, 100};
            return far[random.nextInt(far.length)];
        }
        return kind < 30 ? random.nextInt(run % 3 == 0 ? 4 : 10) : random.nextInt(24);
    }

    /** Signs with few cells in some runs, so that distances are often alike. */
    private int aSign() {
        return run % 2 == 0 ? random.nextInt(32768) : FEW_CELLS[random.nextInt(FEW_CELLS.length)];
    }

    private void typeWords() {
        call(22, 0, 0, 0);
        int size = 1 + random.nextInt(random.nextInt(4) == 0 ? 9 : 4);
        for (int index = 0; index < 2 * size + 1; index++) {
            call(21, index == size ? '/' : aLetter(), 0, 0);
        }
        if (random.nextInt(6) == 0) {
            call(21, 32 + random.nextInt(95), 0, 0);
        }
        call(23, 0, 0, 0);
        call(23, 1, 0, 0);
        call(24, 0, 0, 0);
    }

    /** A good part of what is told without composing. */
    private void tell() {
        call(14, random.nextInt(11), 0, 0);
        call(14, random.nextInt(11), 0, 0);
        for (int what = 0; what < 8; what++) {
            call(11, aPlace(), what, 0);
        }
        for (int index = 0; index < 4; index++) {
            call(12, random.nextInt(2), aPlace(), 0);
            call(13, random.nextInt(2), index < 3 ? index : 10 + aPlace(), 0);
        }
        call(17, 0, 0, 0);
        call(18, 0, 0, 0);
    }

    private void call(int method, int one, int two, int three) {
        if (calls >= CALLS) {
            return;
        }
        calls++;
        int force = one * 7;
        int sign = random.nextInt(10) == 0 ? two : aSign();
        String told = "run " + run + ", call " + calls + ", method " + method + "(" + one + ", " + two + ", " + three + ")";
        switch (method) {
            case 0 -> Checks.due(told, board.letter(one, sign), model.letter(one, sign));
            case 1 -> Checks.due(told, board.sign(one, sign), model.sign(one, sign));
            case 2 -> Checks.due(told, board.compose(one), model.compose(one));
            case 3 -> Checks.due(told, board.composeAll(), model.composeAll());
            case 4 -> Checks.due(told, board.paint(one), model.paint(one));
            case 5 -> Checks.due(told, board.gust(force), model.gust(force));
            case 6 -> Checks.due(told, board.oil(force), model.oil(force));
            case 7 -> Checks.due(told, board.pass(one), model.pass(one));
            case 8 -> Checks.due(told, board.set(one % 3, two), model.set(one % 3, two));
            case 9, 10 -> Checks.due(told, board.letterOf(one, two), model.letterOf(one, two));
            case 11 -> Checks.due(told, board.placeOf(one, two), model.placeOf(one, two));
            case 12 -> Checks.due(told, board.reads(one, two), model.reads(one, two));
            case 13 -> Checks.due(told, board.word(one, two), model.word(one, two));
            case 14 -> Checks.due(told, board.count(one), model.count(one));
            case 15 -> Checks.due(told, board.composed(one, two, three % 4), model.composed(one, two, three % 4));
            case 16 -> Checks.due(told, board.goesWith(one), model.goesWith(one));
            case 17 -> Checks.due(told, board.quality(), model.quality());
            case 18 -> Checks.due(told, board.bareIn(), model.bareIn());
            case 19 -> keepOrUndo(told);
            case 20 -> Checks.due(told, board.restore(), model.restore());
            case 21 -> Checks.due(told, board.type(one), model.type(one));
            case 22 -> Checks.due(told, board.clearText(), model.clearText());
            case 23 -> Checks.due(told, board.fault(one), model.fault(one));
            default -> Checks.due(told, board.read(), model.read());
        }
    }

    private void keepOrUndo(String told) {
        if (random.nextInt(4) == 0) {
            Checks.due(told + " keep", board.keep(), model.keep());
        } else {
            Checks.due(told + " undo", board.undo(), model.undo());
        }
    }
}
