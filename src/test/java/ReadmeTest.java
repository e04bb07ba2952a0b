import java.io.IOException;
import java.nio.file.Files;
import java.nio.file.Path;
import java.util.Arrays;
import java.util.regex.Matcher;
import java.util.regex.Pattern;

/** The calls that README.md shows, each of which answers what stands behind it there. */
public final class ReadmeTest {
    private static final Pattern CALL = Pattern.compile("board\\.(\\w+)\\((.*)\\);\\s*// (-?\\d+).*");

    public static void main(String[] args) throws IOException, ReflectiveOperationException {
        String readme = Files.readString(Path.of("README.md"));
        String[] lines = readme.substring(readme.indexOf("```java\n") + 8, readme.lastIndexOf("```\n")).split("\n");
        Checks.due("the first line makes the board", "TurnedBoards board = new TurnedBoards();".equals(lines[0]) ? 1 : 0, 1);
        TurnedBoards board = new TurnedBoards();
        for (int index = 1; index < lines.length; index++) {
            Matcher call = CALL.matcher(lines[index]);
            Checks.due("a call: " + lines[index], call.matches() ? 1 : 0, 1);
            if (call.matches()) {
                Checks.due(lines[index], answer(board, call.group(1), call.group(2)), Integer.parseInt(call.group(3)));
            }
        }
        Checks.end("ReadmeTest");
    }

    private static int answer(TurnedBoards board, String name, String told) throws ReflectiveOperationException {
        Object[] arguments = told.isEmpty() ? new Object[0] : Arrays.stream(told.split(", ")).map(ReadmeTest::number).toArray();
        Class<?>[] types = new Class<?>[arguments.length];
        Arrays.fill(types, int.class);
        return (int) TurnedBoards.class.getMethod(name, types).invoke(board, arguments);
    }

    private static Integer number(String told) {
        return told.startsWith("'") ? Integer.valueOf(told.charAt(1)) : Integer.valueOf(told);
    }
}
