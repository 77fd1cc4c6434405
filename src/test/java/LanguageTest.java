import java.io.ByteArrayInputStream;
import java.io.DataInputStream;
import java.io.IOException;
import java.io.InputStream;
import java.lang.reflect.Executable;
import java.lang.reflect.Field;
import java.lang.reflect.Method;
import java.lang.reflect.Modifier;
import java.util.ArrayList;
import java.util.Arrays;
import java.util.HashMap;
import java.util.HashSet;
import java.util.List;
import java.util.Map;
import java.util.Set;
import java.util.TreeSet;

/**
 * What LANGUAGE.md asks for and can be seen in the compiled class: its shape, what it calls of the library, how deep
 * its calls go, that it catches nothing, and that no call of the face makes anything but exceptions.
 */
public final class LanguageTest {
    private static final int MOST_CLASSES = 12;
    private static final int MOST_FIELDS = 20;
    private static final int MOST_PARAMETERS = 7;
    private static final int MOST_DEEP = 8;
    private static final Set<String> EXCEPTIONS = Set.of("java/lang/IllegalStateException",
            "java/lang/IllegalArgumentException", "java/lang/IndexOutOfBoundsException",
            "java/lang/ArithmeticException", "java/lang/UnsupportedOperationException",
            "java/util/NoSuchElementException", "java/lang/RuntimeException");
    // What the class needs of rule 4; the rule allows more.
    private static final Set<String> LIBRARY = Set.of("java/lang/Object.<init>", "java/lang/Math.max",
            "java/lang/Math.min", "java/lang/System.arraycopy");

    private static final List<Class<?>> CLASSES = new ArrayList<>();
    private static final Map<String, Code> METHODS = new HashMap<>();

    /** What a method does that matters here. */
    private static final class Code {
        private final Set<String> calls = new TreeSet<>();
        private final Set<String> makes = new TreeSet<>();
        private int catches = 0;
        private boolean throwsItself = false;
    }

    public static void main(String[] args) throws IOException {
        CLASSES.add(CustomsDesk.class);
        CLASSES.addAll(Arrays.asList(CustomsDesk.class.getDeclaredClasses()));
        for (Class<?> one : CLASSES) {
            new ClassFile(one).read();
        }
        none("rule 1: classes inside that others see or that are not static", openClasses());
        none("rule 3: types that are ruled out", otherTypes());
        none("rule 4: calls of the library", libraryCalls());
        none("rule 5: static state", staticState());
        none("rule 6: what catches, or is thrown in a constructor", catchers());
        none("rule 11: too many parameters, fields or classes", crowds());
        none("rules 8 and 11: calls that are too deep, or recursion", deepCalls());
        none("rule 12: what is made by calls", made());
        Check.due("methods were read", true, () -> METHODS.containsKey("CustomsDesk.lodge()I"));
        Check.end();
    }

    private static void none(String what, Set<String> found) {
        Check.due(what, new TreeSet<String>(), () -> found);
    }

    private static Set<String> openClasses() {
        Set<String> found = new TreeSet<>();
        for (Class<?> one : CLASSES) {
            boolean isOpen = Modifier.isPublic(one.getModifiers()) || Modifier.isProtected(one.getModifiers());
            if (one != CustomsDesk.class && (isOpen || !Modifier.isStatic(one.getModifiers()))) {
                found.add(one.getName());
            }
        }
        return found;
    }

    private static boolean isAllowed(Class<?> type) {
        return type.isPrimitive() || CLASSES.contains(type)
                || type.isArray() && type.getComponentType().isPrimitive();
    }

    private static Set<String> otherTypes() {
        Set<String> found = new TreeSet<>();
        for (Class<?> one : CLASSES) {
            for (Field field : one.getDeclaredFields()) {
                if (!isAllowed(field.getType())) {
                    found.add(one.getName() + "." + field.getName());
                }
            }
            for (Executable method : executables(one)) {
                if (!Arrays.stream(method.getParameterTypes()).allMatch(LanguageTest::isAllowed)
                        || method instanceof Method m && !isAllowed(m.getReturnType())) {
                    found.add(one.getName() + "." + method.getName());
                }
            }
        }
        return found;
    }

    private static List<Executable> executables(Class<?> one) {
        List<Executable> all = new ArrayList<>(Arrays.asList(one.getDeclaredMethods()));
        all.addAll(Arrays.asList(one.getDeclaredConstructors()));
        return all;
    }

    private static Set<String> libraryCalls() {
        Set<String> found = new TreeSet<>();
        for (Map.Entry<String, Code> method : METHODS.entrySet()) {
            for (String call : method.getValue().calls) {
                String name = call.substring(0, call.indexOf('('));
                String owner = name.substring(0, name.indexOf('.'));
                boolean isThrown = EXCEPTIONS.contains(owner) && call.endsWith(".<init>(Ljava/lang/String;)V");
                if (!owner.startsWith("CustomsDesk") && !LIBRARY.contains(name) && !isThrown) {
                    found.add(method.getKey() + " calls " + call);
                }
            }
        }
        return found;
    }

    private static Set<String> staticState() {
        Set<String> found = new TreeSet<>();
        for (Class<?> one : CLASSES) {
            for (Field field : one.getDeclaredFields()) {
                boolean isConstant = Modifier.isFinal(field.getModifiers()) && field.getType().isPrimitive();
                if (Modifier.isStatic(field.getModifiers()) && !isConstant) {
                    found.add(one.getName() + "." + field.getName());
                }
            }
        }
        for (String method : METHODS.keySet()) {
            if (method.contains("<clinit>")) {
                found.add(method);
            }
        }
        return found;
    }

    private static Set<String> catchers() {
        Set<String> found = new TreeSet<>();
        for (Map.Entry<String, Code> method : METHODS.entrySet()) {
            Code code = method.getValue();
            if (code.catches > 0 || code.throwsItself && method.getKey().contains("<init>")) {
                found.add(method.getKey());
            }
        }
        return found;
    }

    private static Set<String> crowds() {
        Set<String> found = new TreeSet<>();
        if (CLASSES.size() > MOST_CLASSES) {
            found.add(CLASSES.size() + " classes");
        }
        for (Class<?> one : CLASSES) {
            long fields = Arrays.stream(one.getDeclaredFields()).filter(f -> !Modifier.isStatic(f.getModifiers()))
                    .count();
            if (fields > MOST_FIELDS) {
                found.add(one.getName() + " has " + fields + " fields");
            }
            for (Executable method : executables(one)) {
                if (method.getParameterCount() > MOST_PARAMETERS) {
                    found.add(one.getName() + "." + method.getName());
                }
            }
        }
        return found;
    }

    private static Set<String> deepCalls() {
        Set<String> found = new TreeSet<>();
        Map<String, Integer> depths = new HashMap<>();
        for (String method : METHODS.keySet()) {
            int depth = depthOf(method, new HashSet<>(), depths);
            if (depth > MOST_DEEP) {
                found.add(method + ": " + depth);
            }
        }
        return found;
    }

    private static int depthOf(String method, Set<String> open, Map<String, Integer> depths) {
        if (!METHODS.containsKey(method)) {
            return 0;
        }
        if (depths.containsKey(method)) {
            return depths.get(method);
        }
        if (!open.add(method)) {
            return 1000;
        }
        int deepest = 0;
        for (String call : METHODS.get(method).calls) {
            deepest = Math.max(deepest, depthOf(call, open, depths));
        }
        open.remove(method);
        depths.put(method, deepest + 1);
        return deepest + 1;
    }

    /** Constructors make the rows once; so a run of calls never fills the room. */
    private static Set<String> made() {
        Set<String> found = new TreeSet<>();
        for (Map.Entry<String, Code> method : METHODS.entrySet()) {
            for (String thing : method.getValue().makes) {
                if (!EXCEPTIONS.contains(thing) && !method.getKey().contains("<init>")) {
                    found.add(method.getKey() + " makes " + thing);
                }
            }
        }
        return found;
    }

    /** Reads the constant pool and the instructions of one class, as the machine's book tells their form. */
    private static final class ClassFile {
        private static final int WIDE = 196;
        private static final int TABLE_SWITCH = 170;
        private static final int LOOKUP_SWITCH = 171;

        private final DataInputStream in;
        private int[] tags;
        private int[] firsts;
        private int[] seconds;
        private String[] texts;

        ClassFile(Class<?> one) throws IOException {
            try (InputStream file = one.getResourceAsStream(one.getName() + ".class")) {
                in = new DataInputStream(new ByteArrayInputStream(file.readAllBytes()));
            }
        }

        void read() throws IOException {
            in.skipBytes(8);
            readPool();
            in.skipBytes(2);
            String name = texts[firsts[in.readUnsignedShort()]];
            in.skipBytes(2);
            in.skipBytes(2 * in.readUnsignedShort());
            readMembers(name, false);
            readMembers(name, true);
        }

        private void readPool() throws IOException {
            int count = in.readUnsignedShort();
            tags = new int[count];
            firsts = new int[count];
            seconds = new int[count];
            texts = new String[count];
            for (int at = 1; at < count; at++) {
                tags[at] = in.readUnsignedByte();
                switch (tags[at]) {
                    case 1 -> texts[at] = in.readUTF();
                    case 7, 8, 16, 19, 20 -> firsts[at] = in.readUnsignedShort();
                    case 15 -> in.skipBytes(3);
                    case 5, 6 -> {
                        in.skipBytes(8);
                        at++;
                    }
                    default -> {
                        firsts[at] = in.readUnsignedShort();
                        seconds[at] = in.readUnsignedShort();
                    }
                }
            }
        }

        private void readMembers(String owner, boolean areMethods) throws IOException {
            int count = in.readUnsignedShort();
            for (int member = 0; member < count; member++) {
                in.skipBytes(2);
                String name = texts[in.readUnsignedShort()];
                String kind = texts[in.readUnsignedShort()];
                int attributes = in.readUnsignedShort();
                for (int attribute = 0; attribute < attributes; attribute++) {
                    String what = texts[in.readUnsignedShort()];
                    byte[] body = new byte[in.readInt()];
                    in.readFully(body);
                    if (areMethods && what.equals("Code")) {
                        METHODS.put(owner + "." + name + kind, codeOf(body));
                    }
                }
            }
        }

        private Code codeOf(byte[] body) throws IOException {
            DataInputStream part = new DataInputStream(new ByteArrayInputStream(body));
            part.skipBytes(4);
            byte[] bytes = new byte[part.readInt()];
            part.readFully(bytes);
            Code code = new Code();
            code.catches = part.readUnsignedShort();
            for (int at = 0; at < bytes.length; at += lengthAt(bytes, at)) {
                note(code, bytes, at);
            }
            return code;
        }

        private void note(Code code, byte[] bytes, int at) {
            int instruction = bytes[at] & 255;
            if (instruction >= 182 && instruction <= 185) {
                int target = shortAt(bytes, at + 1);
                int named = seconds[target];
                code.calls.add(texts[firsts[firsts[target]]] + "." + texts[firsts[named]] + texts[seconds[named]]);
            } else if (instruction == 186) {
                code.calls.add("invokedynamic.(");
            } else if (instruction == 187) {
                code.makes.add(texts[firsts[shortAt(bytes, at + 1)]]);
            } else if (instruction == 188 || instruction == 189 || instruction == 197) {
                code.makes.add("an array");
            } else if (instruction == 191) {
                code.throwsItself = true;
            }
        }

        private static int shortAt(byte[] bytes, int at) {
            return (bytes[at] & 255) << 8 | bytes[at + 1] & 255;
        }

        private static int intAt(byte[] bytes, int at) {
            return shortAt(bytes, at) << 16 | shortAt(bytes, at + 2);
        }

        private static int lengthAt(byte[] bytes, int at) {
            int instruction = bytes[at] & 255;
            int table = at + 4 - at % 4;
            if (instruction == TABLE_SWITCH) {
                return table - at + 12 + 4 * (intAt(bytes, table + 8) - intAt(bytes, table + 4) + 1);
            }
            if (instruction == LOOKUP_SWITCH) {
                return table - at + 8 + 8 * intAt(bytes, table + 4);
            }
            if (instruction == WIDE) {
                return (bytes[at + 1] & 255) == 132 ? 6 : 4;
            }
            return fixedLength(instruction);
        }

        private static int fixedLength(int instruction) {
            if (instruction == 185 || instruction == 186 || instruction == 200 || instruction == 201) {
                return 5;
            }
            if (instruction == 197) {
                return 4;
            }
            if (instruction == 17 || instruction == 19 || instruction == 20 || instruction == 132
                    || instruction >= 153 && instruction <= 168 || instruction >= 178 && instruction <= 184
                    || instruction == 187 || instruction == 189 || instruction == 192 || instruction == 193
                    || instruction == 198 || instruction == 199) {
                return 3;
            }
            boolean hasByte = instruction == 16 || instruction == 18 || instruction >= 21 && instruction <= 25
                    || instruction >= 54 && instruction <= 58 || instruction == 169 || instruction == 188;
            return hasByte ? 2 : 1;
        }
    }
}
