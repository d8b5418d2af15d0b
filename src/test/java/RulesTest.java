import java.io.IOException;
import java.lang.reflect.Constructor;
import java.lang.reflect.Field;
import java.lang.reflect.Method;
import java.lang.reflect.Modifier;
import java.nio.file.Files;
import java.nio.file.Path;
import java.util.NoSuchElementException;
import java.util.Set;
import java.util.TreeSet;
import java.util.regex.Matcher;
import java.util.regex.Pattern;

/** What of LANGUAGE.md can be seen by looking at the class and at its source. */
public final class RulesTest {
    private static final Check CHECK = new Check();
    private static final String FACE = "feed(IIIII)I end(I)Z house()I fault()I plant(II)I act(II)I comes(II)I sights(I)I now(I)I"
        + " does(III)I sponge(I)I carry(II)I days(I)I undo()I guilty(II)I proves(I)I hides(I)I dark(I)I fits()I ask()I cover()I"
        + " covering()I round(I)I roundAt(I)I choice()I chosen(I)I elder()I card(I)I byteAt(I)I drawn(II)I odds(III)I book(I)I"
        + " told(I)I sentence()I said(I)I image(I)Z restore(I)Z count(I)I";

    private static String sign(Method m) {
        StringBuilder s = new StringBuilder(m.getName()).append('(');
        for (Class<?> type : m.getParameterTypes()) {
            s.append(type == int.class ? "I" : type == boolean.class ? "Z" : type.getName());
        }
        return s.append(')').append(m.getReturnType() == int.class ? "I" : m.getReturnType() == boolean.class ? "Z" : "?").toString();
    }

    private static void face() throws NoSuchMethodException {
        Set<String> wanted = new TreeSet<>(Set.of(FACE.split(" ")));
        Set<String> names = new TreeSet<>();
        Set<String> seen = new TreeSet<>();
        for (String w : wanted) {
            names.add(w.substring(0, w.indexOf('(')));
        }
        for (Method m : ParlourLeaves.class.getDeclaredMethods()) {
            if (Modifier.isPublic(m.getModifiers())) {
                seen.add(sign(m));
            } else {
                CHECK.due(m + " is private", Modifier.isPrivate(m.getModifiers()), true);
                CHECK.due(m + " bears a public name", names.contains(m.getName()), false);
            }
        }
        CHECK.due("the face is " + seen, seen.equals(wanted), true);
        CHECK.due("the class is public and final", (ParlourLeaves.class.getModifiers() & 17) == 17, true);
        CHECK.due("one constructor", ParlourLeaves.class.getDeclaredConstructors().length, 1);
        for (String name : new String[] {"plant", "act"}) {
            Class<?>[] thrown = ParlourLeaves.class.getMethod(name, int.class, int.class).getExceptionTypes();
            CHECK.due(name + " tells what it throws", thrown.length == 1 && thrown[0] == NoSuchElementException.class, true);
        }
        for (Field f : ParlourLeaves.class.getDeclaredFields()) {
            CHECK.due(f + " is private", Modifier.isPrivate(f.getModifiers()) || f.getName().equals("NONE"), true);
        }
    }

    private static void shapeOf(Class<?> c) {
        int fields = 0;
        for (Field f : c.getDeclaredFields()) {
            if (!Modifier.isStatic(f.getModifiers())) {
                fields++;
                continue;
            }
            CHECK.due(f + " is final", Modifier.isFinal(f.getModifiers()), true);
            CHECK.due(f + " is of a type for constants",
                Set.of("int", "long", "boolean", "char", "java.lang.String", "[I", "[J", "[C", "[B").contains(f.getType().getName()), true);
        }
        CHECK.due(c + " has few fields: " + fields, fields <= 20, true);
        for (Method m : c.getDeclaredMethods()) {
            CHECK.due(m + " has few parameters", m.getParameterCount() <= 7, true);
            CHECK.due(m + " is of the source", m.isSynthetic(), false);
        }
        for (Constructor<?> k : c.getDeclaredConstructors()) {
            CHECK.due(k + " has few parameters", k.getParameterCount() <= 7, true);
        }
    }

    private static void classes() {
        Class<?>[] inside = ParlourLeaves.class.getDeclaredClasses();
        CHECK.due("few classes", inside.length + 1 <= 12, true);
        shapeOf(ParlourLeaves.class);
        for (Class<?> c : inside) {
            CHECK.due(c + " is static", Modifier.isStatic(c.getModifiers()), true);
            CHECK.due(c + " is not public or protected", (c.getModifiers() & (Modifier.PUBLIC | Modifier.PROTECTED)) == 0, true);
            shapeOf(c);
        }
    }

    private static void source() throws IOException {
        String text = Files.readString(Path.of("src/main/java/ParlourLeaves.java"));
        CHECK.due("signs 1 to 127 alone", text.chars().allMatch(c -> c > 0 && c < 128), true);
        String code = text.replaceAll("(?s)/\\*.*?\\*/", "").replaceAll("//[^\n]*", "");
        String bare = code.replaceAll("\"[^\"]*\"", "\"\"");
        String[] refused = {"->", "::", "\\btry\\b", "\\bcatch\\b", "\\bfinally\\b", "\\bassert\\b", "\\bsynchronized\\b",
            "\\binstanceof\\b", "\"\"\\s*\\+", "\\+\\s*\"\"", "\\bMath\\.\\w+Exact\\b", "\\bSystem\\.(?!arraycopy\\b)\\w+",
            "\\bInteger\\.(?!bitCount\\b)\\w+", "\\bMath\\.(?!(min|max|abs)\\b)\\w+", "\\bwhile\\s*\\(true", "for\\s*\\(\\s*;\\s*;",
            "\\bstatic\\s*\\{", "\\b(double|float)\\b", "\\bequals\\b", "\\bhashCode\\b", "\\btoString\\b", "\\bpackage\\b"};
        for (String r : refused) {
            Matcher m = Pattern.compile(r).matcher(bare);
            CHECK.due("'" + r + "' stands in the source", m.find(), false);
        }
        CHECK.due("one import", code.split("\nimport |^import ").length - 1, 1);
        Matcher thrown = Pattern.compile("throw ([^;]*);").matcher(bare);
        while (thrown.find()) {
            CHECK.due("throws " + thrown.group(1), thrown.group(1).equals("new NoSuchElementException()"), true);
        }
        methodLengths(text);
    }

    private static void methodLengths(String text) {
        String[] lines = text.split("\n");
        Pattern head = Pattern.compile("(    |        )\\w.*\\) (throws \\w+ )?\\{");
        for (int k = 0; k < lines.length; k++) {
            Matcher m = head.matcher(lines[k]);
            if (!m.matches() || lines[k].matches(" *(if|for|while|switch|do)\\b.*")) {
                continue;
            }
            int end = k;
            while (!lines[end].equals(m.group(1) + "}")) {
                end++;
            }
            CHECK.due("the method of line " + (k + 1) + " is short", end - k < 60, true);
        }
    }

    public static void main(String[] args) throws Exception {
        face();
        classes();
        source();
        CHECK.finish();
    }
}
