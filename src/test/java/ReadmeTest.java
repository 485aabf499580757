import java.io.IOException;
import java.lang.reflect.Method;
import java.nio.file.DirectoryStream;
import java.nio.file.Files;
import java.nio.file.Path;
import java.util.Arrays;
import java.util.Set;
import java.util.TreeSet;
import java.util.regex.Matcher;
import java.util.regex.Pattern;

/** What README.md tells: the answers of its example, the constants, and the names of the tests. */
public final class ReadmeTest {
    // One call a line, its answer first in the comment behind it: so no call is shown that is not made here.
    private static final Pattern CALL =
        Pattern.compile("x\\.(\\w+)\\((-?\\d+(?:, -?\\d+)*)\\); +// (-?\\d+|[A-Z]+)(?:: \\S.*)?");
    private static final Pattern CONSTANT = Pattern.compile("\\| `([A-Z]+)` +\\| (-\\d+) +\\|.*");
    private static final int MOST_CALLS = 512;

    private ReadmeTest() {
    }

    public static void main(String[] args) throws IOException, ReflectiveOperationException {
        String text = Files.readString(Path.of("README.md"));
        constants(text);
        examples(text);
        namesOfTests(text);
        Due.end();
    }

    private static void examples(String text) throws ReflectiveOperationException {
        Matcher block = Pattern.compile("(?ms)^```java\n(.*?)^```$").matcher(text);
        int blocks = 0;
        while (block.find()) {
            blocks++;
            // The answers must be the class's, and the document's too, as the plain second build does its words.
            example(block.group(1).split("\n"), new SwitchTower());
            example(block.group(1).split("\n"), new PlainTower());
        }
        Due.check("README.md shows no example", blocks > 0);
    }

    private static void example(String[] lines, Object x) throws ReflectiveOperationException {
        Set<String> asked = new TreeSet<>();
        int calls = 0;
        Due.due("the first line of the example", lines[0], "SwitchTower x = new SwitchTower();");
        for (int i = 1; i < lines.length; i++) {
            Matcher call = CALL.matcher(lines[i]);
            if (call.matches()) {
                calls++;
                asked.add(call.group(1));
                String name = "README.md on a " + x.getClass().getSimpleName() + ": " + lines[i];
                Due.due(name, ask(x, call.group(1), call.group(2).split(", ")), answer(call.group(3)));
            } else {
                Due.check("no call with its answer: " + lines[i], lines[i].isBlank() || lines[i].startsWith("// "));
            }
        }
        Due.check("the example has " + calls + " calls", calls > 0 && calls <= MOST_CALLS);
        Set<String> face = new TreeSet<>();
        for (Method method : SwitchTower.class.getMethods()) {
            if (method.getDeclaringClass() == SwitchTower.class) {
                face.add(method.getName());
            }
        }
        Due.due("the calls that the example shows", asked.toString(), face.toString());
    }

    private static int ask(Object x, String name, String[] given) throws ReflectiveOperationException {
        Class<?>[] types = new Class<?>[given.length];
        Arrays.fill(types, int.class);
        Object[] numbers = new Object[given.length];
        for (int i = 0; i < given.length; i++) {
            numbers[i] = Integer.parseInt(given[i]);
        }
        Method method = x.getClass().getDeclaredMethod(name, types);
        return (int) method.invoke(x, numbers);
    }

    private static int answer(String told) throws ReflectiveOperationException {
        boolean named = Character.isLetter(told.charAt(0));
        return named ? SwitchTower.class.getField(told).getInt(null) : Integer.parseInt(told);
    }

    private static void constants(String text) throws ReflectiveOperationException {
        Set<Integer> told = new TreeSet<>();
        for (String line : text.split("\n")) {
            Matcher constant = CONSTANT.matcher(line);
            if (constant.matches()) {
                int number = Integer.parseInt(constant.group(2));
                Due.due(constant.group(1), answer(constant.group(1)), number);
                told.add(number);
            }
        }
        Due.due("the constants that README.md tells", told.toString(), "[-8, -7, -6, -5, -4, -3, -2, -1]");
    }

    private static void namesOfTests(String text) throws IOException {
        Set<String> told = new TreeSet<>();
        Matcher name = Pattern.compile("`(\\w+Test)`").matcher(text);
        while (name.find()) {
            told.add(name.group(1));
        }
        Set<String> there = new TreeSet<>();
        try (DirectoryStream<Path> files = Files.newDirectoryStream(Path.of("src/test/java"), "*Test.java")) {
            for (Path file : files) {
                there.add(file.getFileName().toString().replace(".java", ""));
            }
        }
        Due.due("the tests that README.md names", told.toString(), there.toString());
    }
}
