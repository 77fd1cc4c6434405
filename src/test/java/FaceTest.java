import java.lang.reflect.Method;
import java.lang.reflect.Modifier;
import java.nio.charset.StandardCharsets;
import java.nio.file.Files;
import java.nio.file.Path;
import java.util.Arrays;
import java.util.Set;
import java.util.TreeSet;
import java.util.regex.Matcher;
import java.util.regex.Pattern;

/**
 * The public face, as the document writes it, what LANGUAGE.md rules out and can be seen in the text, and whether each
 * promise has tests of its boundaries.
 */
public final class FaceTest {
    private static final Path DOCUMENT = Path.of("../shared/DOC.md");
    private static final Path SOURCE = Path.of("src/main/java/CustomsDesk.java");
    private static final Path TESTS = Path.of("src/test/java");

    public static void main(String[] args) throws Exception {
        Check.due("the class is public and final", Modifier.PUBLIC | Modifier.FINAL, CustomsDesk.class::getModifiers);
        Check.due("the methods", documentFace(), FaceTest::ownFace);
        Check.due("one constructor", 1, () -> CustomsDesk.class.getDeclaredConstructors().length);
        Check.due("it is public", 1, () -> CustomsDesk.class.getConstructors().length);
        Check.due("fields that are not private", 0L, () -> Arrays.stream(CustomsDesk.class.getDeclaredFields())
                .filter(f -> !Modifier.isPrivate(f.getModifiers())).count());
        Check.due("private methods with names of public ones", new TreeSet<String>(), FaceTest::sharedNames);
        Check.due("words that are ruled out", new TreeSet<String>(), () -> ruledOut(read(SOURCE)));
        Check.due("methods that are too long", new TreeSet<String>(), () -> longMethods(read(SOURCE)));
        Check.due("promises without a test of their boundaries", new TreeSet<Integer>(), FaceTest::untested);
        Check.end();
    }

    private static Set<Integer> untested() {
        Set<Integer> promises = new TreeSet<>();
        Matcher promise = Pattern.compile("## Promise (\\d+):").matcher(read(DOCUMENT));
        while (promise.find()) {
            promises.add(Integer.valueOf(promise.group(1)));
        }
        for (java.io.File file : TESTS.toFile().listFiles()) {
            if (file.getName().endsWith("BoundariesTest.java")) {
                Matcher test = Pattern.compile("static void promise(\\d+)_\\w+\\(\\)").matcher(read(file.toPath()));
                while (test.find()) {
                    promises.remove(Integer.valueOf(test.group(1)));
                }
            }
        }
        return promises;
    }

    private static String read(Path path) {
        try {
            return Files.readString(path, StandardCharsets.UTF_8);
        } catch (java.io.IOException e) {
            throw new IllegalStateException(e);
        }
    }

    private static Set<String> documentFace() {
        Set<String> face = new TreeSet<>();
        String text = read(DOCUMENT);
        String code = text.substring(text.indexOf("```java"), text.indexOf("## Terms"));
        Matcher method = Pattern.compile("public (int|double|float) (\\w+)\\((.*?)\\)(?: throws (.*?))?;").matcher(code);
        while (method.find()) {
            String kinds = method.group(3).replaceAll("(\\w+) \\w+", "$1");
            face.add(method.group(1) + " " + method.group(2) + "(" + kinds + ") "
                    + (method.group(4) == null ? "" : method.group(4)));
        }
        return face;
    }

    private static Set<String> ownFace() {
        Set<String> face = new TreeSet<>();
        for (Method method : CustomsDesk.class.getDeclaredMethods()) {
            if (!Modifier.isPrivate(method.getModifiers())) {
                face.add(method.getReturnType() + " " + method.getName() + "(" + names(method.getParameterTypes())
                        + ") " + names(method.getExceptionTypes()));
            }
        }
        return face;
    }

    private static String names(Class<?>[] kinds) {
        StringBuilder names = new StringBuilder();
        for (Class<?> kind : kinds) {
            names.append(names.length() > 0 ? ", " : "").append(kind.getSimpleName());
        }
        return names.toString();
    }

    private static Set<String> sharedNames() {
        Set<String> names = new TreeSet<>();
        Set<String> face = new TreeSet<>();
        for (Method method : CustomsDesk.class.getDeclaredMethods()) {
            (Modifier.isPublic(method.getModifiers()) ? face : names).add(method.getName());
        }
        for (Class<?> inside : CustomsDesk.class.getDeclaredClasses()) {
            for (Method method : inside.getDeclaredMethods()) {
                names.add(method.getName());
            }
        }
        names.retainAll(face);
        return names;
    }

    private static Set<String> ruledOut(String source) {
        Set<String> found = new TreeSet<>();
        String[] patterns = {"->", "::", "\\bcatch\\b", "\\bfinally\\b", "\\bsynchronized\\b", "\\bassert\\b",
            "\\btry\\b", "\\bprotected\\b", "import (?!java\\.util\\.NoSuchElementException;)", "static \\{",
            "[^\\x0a\\x20-\\x7e]", "\" \\+|\\+ \"", "Math\\.(?!min|max)", "Exact\\b", "System\\.(?!arraycopy)"};
        for (String pattern : patterns) {
            Matcher matcher = Pattern.compile(pattern).matcher(source);
            if (matcher.find()) {
                found.add(pattern + " at " + matcher.start());
            }
        }
        return found;
    }

    private static Set<String> longMethods(String source) {
        Set<String> found = new TreeSet<>();
        String[] lines = source.split("\n");
        int start = 0;
        for (int line = 0; line < lines.length; line++) {
            if (lines[line].matches(" {4,8}\\S.*\\(.*") && !lines[line].trim().startsWith("//")) {
                start = line;
            }
            if (lines[line].matches(" {4,8}\\}") && line - start > 60) {
                found.add(lines[start].trim());
            }
        }
        return found;
    }
}
