import java.lang.reflect.InvocationTargetException;
import java.lang.reflect.Method;
import java.lang.reflect.Modifier;
import java.util.Arrays;
import java.util.Comparator;

/**
 * All promises: each call with each argument at, beside and far beyond the edges of the document, on boards of several
 * kinds, answered alike by TurnedBoards and by the model. No call throws, and an error leaves the board as the model's.
 */
public final class EdgesTest {
    private static final int MOST_CALLS = 512;
    private static final int[] EDGES = {Integer.MIN_VALUE, -32768, -1001, -1, 0, 1, 2, 3, 5, 6, 7, 8, 9, 10, 11, 12, 17, 18, 19, 20, 21,
        22, 31, 32, 47, 97, 99, 100, 126, 127, 32767, 32768, 65536 + 97, Integer.MAX_VALUE - 9, Integer.MAX_VALUE};
    /** For the call with three arguments, which would else be made too often. */
    private static final int[] FEW_EDGES = {Integer.MIN_VALUE, -1, 0, 1, 2, 3, 9, 10, Integer.MAX_VALUE};
    private static final int[] COUNTS = {0, 1, 2, 3, 4, 5, 6, 7, 8, 9, 10, 20, 21};

    private static final String[] LETTERS = {"letter 0 7", "letter 1 28672", "letter 2 128", "letter 9 18724"};
    private static final String FULL_TEXT = "text ab/ba" + " ".repeat(25);
    private static final String[][] KINDS = {
        {},
        LETTERS,
        {"text a/b", "read", "sign 0 7", "keep"},
        {"text abcjabcj/jcbaaaaa", "read", "composeAll", "set 0 9", "sign 3 511", "gust 99", "pass 3", "keep", "paint 7"},
        {"text ab/ba", "read", "keep", "sign 1 32767", "set 0 1", "sign 0 0", "set 1 9", "oil 1", FULL_TEXT},
    };

    private final String[] kind;
    private TurnedBoards board;
    private Model model;
    private int calls;

    private EdgesTest(String[] kind) throws ReflectiveOperationException {
        this.kind = kind;
        make();
    }

    public static void main(String[] args) throws ReflectiveOperationException {
        Method[] methods = TurnedBoards.class.getDeclaredMethods();
        Arrays.sort(methods, Comparator.comparing(Method::getName));
        for (Method method : methods) {
            if (Modifier.isPublic(method.getModifiers())) {
                for (String[] kind : KINDS) {
                    new EdgesTest(kind).all(method, new Object[method.getParameterCount()], 0);
                }
            }
        }
        Checks.end("EdgesTest");
    }

    private void make() throws ReflectiveOperationException {
        board = new TurnedBoards();
        model = new Model();
        calls = 0;
        if (kind.length > 0 && kind != LETTERS) {
            makeBy(LETTERS);
        }
        makeBy(kind);
    }

    private void makeBy(String[] lines) throws ReflectiveOperationException {
        for (String line : lines) {
            if (line.startsWith("text ")) {
                same("clearText");
                for (char character : line.substring(5).toCharArray()) {
                    same("type", (int) character);
                }
                continue;
            }
            String[] words = line.split(" ");
            Object[] arguments = new Object[words.length - 1];
            for (int index = 0; index < arguments.length; index++) {
                arguments[index] = Integer.valueOf(words[index + 1]);
            }
            same(words[0], arguments);
        }
    }

    /** Every choice of the arguments from this one on. */
    private void all(Method method, Object[] arguments, int next) throws ReflectiveOperationException {
        if (next < arguments.length) {
            for (int edge : arguments.length == 3 ? FEW_EDGES : EDGES) {
                arguments[next] = edge;
                all(method, arguments, next + 1);
            }
            return;
        }
        if (calls + COUNTS.length + 1 > MOST_CALLS) {
            make();
        }
        same(method.getName(), arguments);
        for (int what : COUNTS) {
            same("count", what);
        }
    }

    private void same(String name, Object... arguments) throws ReflectiveOperationException {
        calls++;
        String told = String.join(", ", kind) + ": " + name + Arrays.toString(arguments);
        Checks.due(told, answer(board, name, arguments), answer(model, name, arguments));
    }

    private static long answer(Object of, String name, Object[] arguments) throws ReflectiveOperationException {
        Class<?>[] types = new Class<?>[arguments.length];
        Arrays.fill(types, int.class);
        try {
            return (int) of.getClass().getDeclaredMethod(name, types).invoke(of, arguments);
        } catch (InvocationTargetException thrown) {
            System.out.println(name + Arrays.toString(arguments) + " throws " + thrown.getCause());
            return of instanceof TurnedBoards ? Long.MAX_VALUE : Long.MIN_VALUE;
        }
    }
}
