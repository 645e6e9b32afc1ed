import java.io.IOException;
import java.lang.reflect.Constructor;
import java.lang.reflect.Field;
import java.lang.reflect.Method;
import java.lang.reflect.Modifier;
import java.nio.file.Files;
import java.nio.file.Path;
import java.util.Arrays;
import java.util.TreeSet;
import java.util.regex.Matcher;
import java.util.regex.Pattern;

/** The face of the document and the rules of LANGUAGE.md that a program can look at. */
public final class RulesTest {
    private static final Due DUE = new Due("RulesTest");
    private static final String SOURCE = "src/main/java/TurnedWords.java";
    private static final String DOCUMENT = "../shared/DOC.md";
    private static final TreeSet<String> FACE = new TreeSet<>();
    private static final String[] FORBIDDEN = {
        "\\b(throw|throws|try|catch|finally|synchronized|assert|native|volatile|transient)\\b",
        "->", "::", "\\bimport\\b", "\\bpackage\\b", "\\bstatic\\s*\\{", "@\\w+",
        "\\bObject\\b", "\\bhashCode\\b", "\\.equals\\b", "\\btoString\\b", "\\bThread\\b",
        "\\bSystem\\.(?!arraycopy\\b)", "\\bMath\\.\\w*Exact\\b", "\\bvar\\b", "\\b(double|float)\\b"
    };

    private RulesTest() {
    }

    public static void main(String[] args) throws IOException {
        String code = withoutComments(Files.readString(Path.of(SOURCE)));
        readFace(Files.readString(Path.of(DOCUMENT)));
        face();
        none();
        nested();
        words(code);
        parameters(code);
        methodLengths();
        roomOfCalls();
        DUE.finish();
    }

    private static String withoutComments(String source) {
        return source.replaceAll("(?s)/\\*.*?\\*/", "").replaceAll("//[^\n]*", "");
    }

    /** The methods of the document's code block, by their types. */
    private static void readFace(String document) {
        Matcher methods = Pattern.compile("\n    public (\\w+) (\\w+)\\(([^)]*)\\);").matcher(document);
        while (methods.find()) {
            String types = methods.group(3).replaceAll("(\\w+) \\w+", "$1");
            FACE.add(methods.group(1) + " " + methods.group(2) + "(" + types + ")");
        }
        DUE.is("methods of the document", FACE.size(), 23);
    }

    private static String signature(Method method) {
        String types = Arrays.toString(Arrays.stream(method.getParameterTypes())
                .map(Class::getSimpleName).toArray());
        return method.getReturnType().getSimpleName() + " " + method.getName()
                + "(" + types.substring(1, types.length() - 1) + ")";
    }

    private static void face() {
        Class<?> face = TurnedWords.class;
        DUE.is("the class's modifiers", face.getModifiers(), Modifier.PUBLIC | Modifier.FINAL);
        TreeSet<String> seen = new TreeSet<>();
        TreeSet<String> names = new TreeSet<>();
        for (Method method : face.getDeclaredMethods()) {
            if (!Modifier.isPrivate(method.getModifiers())) {
                seen.add(signature(method));
                names.add(method.getName());
                DUE.is(method + "", method.getModifiers(), Modifier.PUBLIC);
            }
        }
        DUE.isText("the face", seen.toString(), FACE.toString());
        for (Method method : face.getDeclaredMethods()) {
            boolean isPrivate = Modifier.isPrivate(method.getModifiers());
            DUE.is(method + "", isPrivate && names.contains(method.getName()), false);
        }
        for (Constructor<?> constructor : face.getDeclaredConstructors()) {
            DUE.is(constructor + "", constructor.getModifiers(), Modifier.PUBLIC);
            DUE.is(constructor + "", constructor.getParameterCount(), 0);
        }
        for (Field field : face.getDeclaredFields()) {
            boolean isPrivate = Modifier.isPrivate(field.getModifiers());
            DUE.is(field + " is private", isPrivate, !field.getName().equals("NONE"));
            boolean mayStay = !Modifier.isStatic(field.getModifiers());
            DUE.is(field + " is final", mayStay || Modifier.isFinal(field.getModifiers()), true);
        }
    }

    private static void none() {
        for (Field field : TurnedWords.class.getFields()) {
            DUE.isText("a constant", field.toGenericString(),
                    "public static final int TurnedWords.NONE");
        }
        DUE.is("constants", TurnedWords.class.getFields().length, 1);
        DUE.is("NONE", TurnedWords.NONE, -1);
    }

    private static void nested() {
        Class<?>[] classes = TurnedWords.class.getDeclaredClasses();
        DUE.is("classes", classes.length <= 11, true);
        for (Class<?> own : classes) {
            DUE.is(own + " is static", Modifier.isStatic(own.getModifiers()), true);
            DUE.is(own + " is public", Modifier.isPublic(own.getModifiers()), false);
            int fields = 0;
            for (Field field : own.getDeclaredFields()) {
                boolean isStatic = Modifier.isStatic(field.getModifiers());
                fields += isStatic ? 0 : 1;
                DUE.is(field + " is final", !isStatic || Modifier.isFinal(field.getModifiers()), true);
            }
            DUE.is(own + " fields", fields <= 20, true);
            for (Method method : own.getDeclaredMethods()) {
                for (String due : FACE) {
                    DUE.is(method + "", due.contains(" " + method.getName() + "("), false);
                }
            }
        }
    }

    private static void words(String code) {
        for (String forbidden : FORBIDDEN) {
            Matcher matcher = Pattern.compile(forbidden).matcher(code);
            DUE.is("LANGUAGE.md: " + forbidden, matcher.find(), false);
        }
        DUE.is("signs of the source", code.chars().allMatch(c -> c < 128), true);
    }

    private static void parameters(String code) {
        Matcher lists = Pattern.compile("\\(((?:\\w+(?:\\[\\])? \\w+, )+\\w+(?:\\[\\])? \\w+)\\) \\{")
                .matcher(code);
        while (lists.find()) {
            DUE.is("parameters " + lists.group(1), lists.group(1).split(",").length <= 7, true);
        }
    }

    private static void methodLengths() throws IOException {
        int begun = 0;
        int line = 0;
        for (String text : Files.readAllLines(Path.of(SOURCE))) {
            line++;
            DUE.is("line " + line + " is short", text.length() <= 100, true);
            if (text.matches("( {4}| {8})\\S.*\\) \\{")) {
                begun = line;
            } else if (text.matches("( {4}| {8})\\}")) {
                DUE.is("the method that ends at line " + line, line - begun <= 60, true);
            }
        }
    }

    /** No call but the first image of each number makes an object. */
    private static void roomOfCalls() {
        TurnedWords x = Due.with("ab abc b");
        for (int k = 0; k < 3; k++) {
            x.image(k);
        }
        useAll(x, 3000);
        com.sun.management.ThreadMXBean threads = (com.sun.management.ThreadMXBean)
                java.lang.management.ManagementFactory.getThreadMXBean();
        long thread = Thread.currentThread().getId();
        long before = threads.getThreadAllocatedBytes(thread);
        useAll(x, 1000);
        long made = threads.getThreadAllocatedBytes(thread) - before;
        DUE.is("bytes made by 1000 rounds: " + made, made < 100000, true);
    }

    private static int useAll(TurnedWords x, int rounds) {
        int sum = 0;
        for (int i = 0; i < rounds; i++) {
            x.feed(0x61622063, 0x20646566, 0x20202020, 0x20202020, 0x20202020);
            sum += x.words();
            x.feed(0x612a6220, 0, 0, 0, 0);
            x.end(3);
            sum += x.pattern();
            x.feed(0x66666620, 0, 0, 0, 0);
            x.end(3);
            sum += x.edit(false) + x.merge() + x.undo() + x.cancel() + x.fault(0);
            for (int what = 0; what < 18; what++) {
                sum += x.count(what) + x.run(0, what) + x.turn(what, what) + x.word(0, true, what);
            }
            sum += x.of(0, 0) + x.shared(0) + x.alone(0, 0) + x.near(0, 0) + x.tally(1, false);
            sum += x.tally(97, true) + x.places(0, 97) + x.instead(0, 63) + x.answer(0, true);
            sum += (x.image(i % 3) ? 1 : 0) + (x.again(i % 3) ? 1 : 0);
        }
        return sum;
    }
}
