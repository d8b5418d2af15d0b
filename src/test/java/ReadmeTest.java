import java.io.IOException;
import java.lang.reflect.InvocationTargetException;
import java.lang.reflect.Method;
import java.nio.file.Files;
import java.nio.file.Path;
import java.util.regex.Matcher;
import java.util.regex.Pattern;

/** The calls in README.md are made, in its order, and their answers compared with what it tells. */
public final class ReadmeTest {
    private static final Check CHECK = new Check();
    private static final Pattern BLOCK = Pattern.compile("```java\n(.*?)```", Pattern.DOTALL);
    private static final Pattern CALL = Pattern.compile(
        "tape\\(x, ((?:\"[^\"]*\"[\\s+]*)+)\\);|x\\.(\\w+)\\(([-\\d, ]*)\\);[ ]*// (-?\\d+|true|false)\\b");
    private static final int STATEMENTS = 40;

    private static String words(String text) {
        return text.replaceAll("\\s+", " ").trim();
    }

    /** What a text in Java's writing, in one piece or several, says. */
    private static String literal(String written) {
        StringBuilder s = new StringBuilder();
        Matcher piece = Pattern.compile("\"([^\"]*)\"").matcher(written);
        while (piece.find()) {
            s.append(piece.group(1));
        }
        return s.toString();
    }

    private static String answer(ParlourLeaves x, String name, String arguments) throws ReflectiveOperationException {
        String[] told = arguments.isBlank() ? new String[0] : arguments.split(",");
        Object[] values = new Object[told.length];
        Class<?>[] types = new Class<?>[told.length];
        for (int k = 0; k < told.length; k++) {
            values[k] = Integer.valueOf(told[k].trim());
            types[k] = int.class;
        }
        Method method = ParlourLeaves.class.getMethod(name, types);
        try {
            return String.valueOf(method.invoke(x, values));
        } catch (InvocationTargetException e) {
            return "throws." + e.getCause().getClass().getSimpleName();
        }
    }

    private static void play(String block) throws ReflectiveOperationException {
        ParlourLeaves x = new ParlourLeaves();
        int statements = 0;
        Matcher call = CALL.matcher(block);
        while (call.find()) {
            statements++;
            if (call.group(1) != null) {
                Check.tape(x, literal(call.group(1)));
            } else {
                String got = answer(x, call.group(2), call.group(3));
                CHECK.due(call.group() + ", answered " + got, got.equals(call.group(4)), true);
            }
        }
        int written = block.split("(?m)^(x\\.|tape\\()", -1).length - 1;
        CHECK.due("statements of the example that were understood", statements, written);
        CHECK.due("the example is there", statements >= STATEMENTS, true);
    }

    public static void main(String[] args) throws IOException, ReflectiveOperationException {
        Matcher blocks = BLOCK.matcher(Files.readString(Path.of("README.md")));
        CHECK.due("the helper is there", blocks.find(), true);
        String helpers = words(Files.readString(Path.of("src/test/java/Check.java")));
        CHECK.due("the tests put texts onto the tape by the same helper", helpers.contains(words(blocks.group(1))), true);
        CHECK.due("a day is there", blocks.find(), true);
        play(blocks.group(1));
        CHECK.finish();
    }
}
