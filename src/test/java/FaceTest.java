import java.io.IOException;
import java.lang.reflect.Field;
import java.lang.reflect.Method;
import java.lang.reflect.Modifier;
import java.nio.file.Files;
import java.nio.file.Path;
import java.util.Arrays;
import java.util.Map;
import java.util.TreeMap;
import java.util.regex.Pattern;

/** The face as the document has it, and what ../shared/LANGUAGE.md forbids and is easily seen. */
public final class FaceTest {
    /** Each method of the face with the number of its arguments; all take and answer int. */
    private static final Map<String, Integer> FACE = new TreeMap<>();

    static {
        String face = "letter2 sign2 compose1 composeAll0 paint1 gust1 oil1 pass1 set2 letterOf2 placeOf2 reads2 word2 count1 "
            + "composed3 goesWith1 quality0 bareIn0 keep0 restore0 undo0 type1 clearText0 fault1 read0";
        for (String method : face.split(" ")) {
            FACE.put(method.substring(0, method.length() - 1), method.charAt(method.length() - 1) - '0');
        }
    }

    public static void main(String[] args) throws IOException {
        theConstants();
        theMethods();
        theFields();
        theClassesInside();
        theSource();
        Checks.end("FaceTest");
    }

    private static void theConstants() {
        Checks.due("INVALID_ARGUMENT", TurnedBoards.INVALID_ARGUMENT, -1001);
        Checks.due("NOT_POSSIBLE", TurnedBoards.NOT_POSSIBLE, -1002);
        Checks.due("LIMIT_REACHED", TurnedBoards.LIMIT_REACHED, -1003);
        Checks.due("NOT_FOUND", TurnedBoards.NOT_FOUND, -1004);
    }

    private static void theMethods() {
        int found = 0;
        for (Method method : TurnedBoards.class.getDeclaredMethods()) {
            boolean named = FACE.containsKey(method.getName());
            boolean isPublic = Modifier.isPublic(method.getModifiers());
            holds(method + " is public or private", isPublic || Modifier.isPrivate(method.getModifiers()));
            holds(method + " is public if the face has it", isPublic == named);
            if (named) {
                found++;
                Checks.due(method + ": arguments", method.getParameterCount(), FACE.get(method.getName()));
                holds(method + ": int alone", method.getReturnType() == int.class
                    && Arrays.stream(method.getParameterTypes()).allMatch(type -> type == int.class));
            }
        }
        Checks.due("methods", found, FACE.size());
        Checks.due("constructors", TurnedBoards.class.getConstructors().length, 1);
        Checks.due("constructors", TurnedBoards.class.getDeclaredConstructors().length, 1);
        holds("final", Modifier.isFinal(TurnedBoards.class.getModifiers()));
    }

    private static void theFields() {
        int open = 0;
        for (Field field : TurnedBoards.class.getDeclaredFields()) {
            open += Modifier.isPrivate(field.getModifiers()) ? 0 : 1;
            holds(field + ": static ones are final", !Modifier.isStatic(field.getModifiers()) || Modifier.isFinal(field.getModifiers()));
        }
        Checks.due("fields that are not private", open, 4);
    }

    private static void theClassesInside() {
        Class<?>[] classes = TurnedBoards.class.getDeclaredClasses();
        holds("at most 12 classes", classes.length < 12);
        for (Class<?> inside : classes) {
            holds(inside + " is static and not public", Modifier.isStatic(inside.getModifiers()) && !Modifier.isPublic(inside.getModifiers()));
            holds(inside + " has no classes inside", inside.getDeclaredClasses().length == 0);
            holds(inside + " has at most 20 fields", inside.getDeclaredFields().length <= 20);
            for (Field field : inside.getDeclaredFields()) {
                holds(field + ": static ones are final", !Modifier.isStatic(field.getModifiers()) || Modifier.isFinal(field.getModifiers()));
            }
            for (Method method : inside.getDeclaredMethods()) {
                holds(method + " does not bear the name of one of the face", !FACE.containsKey(method.getName()));
                holds(method + " takes at most 7 arguments", method.getParameterCount() <= 7);
            }
        }
    }

    private static void theSource() throws IOException {
        String source = Files.readString(Path.of("src/main/java/TurnedBoards.java"));
        String[] forbidden = {"->", "::", "\\bimport\\b", "\\bpackage\\b", "\\bcatch\\b", "\\bfinally\\b", "\\bassert\\b",
            "\\bsynchronized\\b", "\\bprotected\\b", "\\bFloat\\.", "\\bSystem\\.[^a]", "Exact\\b", "\\bnew Random\\b", "[^\\x00-\\x7f]"};
        for (String pattern : forbidden) {
            holds("nowhere " + pattern, !Pattern.compile(pattern).matcher(source).find());
        }
    }

    private static void holds(String what, boolean holds) {
        Checks.due(what, holds ? 1 : 0, 1);
    }
}
