import java.io.IOException;
import java.lang.reflect.Constructor;
import java.lang.reflect.Field;
import java.lang.reflect.Method;
import java.lang.reflect.Modifier;
import java.nio.file.Files;
import java.nio.file.Path;
import java.util.ArrayList;
import java.util.List;
import java.util.Map;
import java.util.Set;
import java.util.TreeMap;
import java.util.TreeSet;
import java.util.regex.Matcher;
import java.util.regex.Pattern;

/** The public face, and the rules of LANGUAGE.md that a look at the class or at its text can tell. */
public final class FaceTest {
    private static final Map<String, Integer> FACE = new TreeMap<>();
    private static final Set<String> CONSTANTS =
        Set.of("NUMBER", "FULL", "MISSING", "SIZE", "STATE", "KIND", "SPENT", "NEVER");

    private FaceTest() {
    }

    public static void main(String[] args) throws IOException {
        listFace();
        outerClass();
        nestedClasses();
        String whole = Files.readString(Path.of("src/main/java/SwitchTower.java"));
        text(whole);
        faceOfDocument(whole, Files.readString(Path.of("../shared/DOC.md")));
        Due.end();
    }

    private static void listFace() {
        String[] one = {"lose", "letters", "many", "wipe", "size", "heap", "least", "orbits", "orbit", "reach",
            "group", "growth", "laws", "fall"};
        String[] two = {"told", "state", "token", "turn", "act", "same", "apart", "order", "far"};
        String[] three = {"sheet", "cell", "of", "times", "part", "way", "law", "fallen"};
        for (String name : one) {
            FACE.put(name, 1);
        }
        for (String name : two) {
            FACE.put(name, 2);
        }
        for (String name : three) {
            FACE.put(name, 3);
        }
        FACE.put("change", 4);
        FACE.put("put", 5);
    }

    private static void outerClass() {
        Class<?> type = SwitchTower.class;
        Due.check("the class is public and final",
            Modifier.isPublic(type.getModifiers()) && Modifier.isFinal(type.getModifiers()));
        Map<String, Integer> found = new TreeMap<>();
        for (Method method : type.getDeclaredMethods()) {
            if (Modifier.isPublic(method.getModifiers())) {
                Due.check(method + " is none of the face", found.put(method.getName(), method.getParameterCount()) == null);
                Due.check(method + " answers an int", method.getReturnType() == int.class);
                Due.check(method + " is no static one", !Modifier.isStatic(method.getModifiers()));
            } else {
                Due.check(method + " is private", Modifier.isPrivate(method.getModifiers()));
                Due.check(method + " bears a public name", !FACE.containsKey(method.getName()));
            }
            Due.check(method + " has too many parameters", method.getParameterCount() <= 7);
        }
        Due.due("the face", found.toString(), FACE.toString());
        Set<String> constants = new TreeSet<>();
        for (Field field : type.getDeclaredFields()) {
            boolean named = Modifier.isPublic(field.getModifiers());
            if (named) {
                constants.add(field.getName());
                Due.check(field + " is a constant", Modifier.isStatic(field.getModifiers())
                    && Modifier.isFinal(field.getModifiers()) && field.getType() == int.class);
            }
            Due.check(field + " is private", named || Modifier.isPrivate(field.getModifiers()));
        }
        Due.due("the constants", constants.toString(), new TreeSet<>(CONSTANTS).toString());
        Constructor<?>[] constructors = type.getDeclaredConstructors();
        Due.due("constructors", constructors.length, 1);
        Due.check("the constructor", Modifier.isPublic(constructors[0].getModifiers())
            && constructors[0].getParameterCount() == 0);
    }

    private static void nestedClasses() {
        Class<?>[] classes = SwitchTower.class.getDeclaredClasses();
        Due.check("there are too many classes", classes.length <= 11);
        for (Class<?> type : classes) {
            int modifiers = type.getModifiers();
            Due.check(type + " is static", Modifier.isStatic(modifiers));
            Due.check(type + " is not to be seen", !Modifier.isPublic(modifiers) && !Modifier.isProtected(modifiers));
            Due.check(type + " has no classes of its own", type.getDeclaredClasses().length == 0);
            int fields = 0;
            for (Field field : type.getDeclaredFields()) {
                boolean constant = Modifier.isStatic(field.getModifiers());
                fields += constant ? 0 : 1;
                Due.check(field + " is static and may change", !constant || Modifier.isFinal(field.getModifiers()));
            }
            Due.check(type + " has too many fields", fields <= 20);
            for (Method method : type.getDeclaredMethods()) {
                Due.check(method + " bears a public name", !FACE.containsKey(method.getName()));
                Due.check(method + " has too many parameters", method.getParameterCount() <= 7);
            }
        }
    }

    private static void text(String whole) {
        String code = whole.replaceAll("(?s)/\\*.*?\\*/", "").replaceAll("//[^\n]*", "");
        String[] forbidden = {"throw", "throws", "try", "catch", "finally", "synchronized", "assert", "package",
            "protected", "instanceof", "Object", "HashMap", "hashCode", "equals", "toString", "double", "float",
            "System\\.(?!arraycopy)\\w+", "\\w+Exact", "Thread", "Random", "native", "volatile", "transient",
            "new \\w+\\[[^\\]]*\\]\\[", "static\\s*\\{", "->", "::", "var", "this\\s*\\)", "\\?\\s*>", "Integer\\.M\\w+"};
        for (String word : forbidden) {
            String bounded = Character.isLetter(word.charAt(0)) ? "\\b" + word : word;
            String pattern = Character.isLetter(word.charAt(word.length() - 1)) ? bounded + "\\b" : bounded;
            Matcher matcher = Pattern.compile(pattern).matcher(code);
            Due.check("the text has " + word, !matcher.find());
        }
        List<String> imports = new ArrayList<>();
        Matcher matcher = Pattern.compile("(?m)^import ([^;]*);").matcher(code);
        while (matcher.find()) {
            imports.add(matcher.group(1));
        }
        Due.due("imports", imports.toString(), "[java.util.Arrays]");
        for (char c : whole.toCharArray()) {
            Due.check("the text has the character " + (int) c, c < 256);
        }
        methodLengths(whole);
    }

    /** Each line of the document's face stands in the class as it stands there, and nothing else is public. */
    private static void faceOfDocument(String whole, String document) {
        Matcher block = Pattern.compile("(?ms)^## The public face$.*?^```java\n(.*?)^```$").matcher(document);
        Due.check("the document has no face", block.find());
        List<String> due = new ArrayList<>();
        for (String line : block.group(1).split("\n")) {
            if (line.contains("public")) {
                due.add(line.endsWith(");") ? line.replace(");", ") {") : line);
            }
        }
        List<String> got = new ArrayList<>();
        for (String line : whole.split("\n")) {
            if (line.matches("\\s*public\\b.*")) {
                got.add(line);
            }
        }
        Due.due("the lines of the face", String.join("\n", got), String.join("\n", due));
    }

    private static void methodLengths(String whole) {
        String[] lines = whole.split("\n");
        for (int i = 0; i < lines.length; i++) {
            if (lines[i].matches(" {4,8}(public|private|static|final|int|long|boolean|void|[A-Z]\\w*).*\\) \\{")) {
                String end = lines[i].replaceAll("\\S.*", "") + "}";
                int length = 1;
                while (i + length < lines.length && !lines[i + length].equals(end)) {
                    length++;
                }
                Due.check("a method is too long: " + lines[i].strip(), length <= 45);
            }
        }
    }
}
