import java.io.IOException;
import java.lang.reflect.Method;
import java.lang.reflect.Modifier;
import java.net.URL;
import java.net.URLClassLoader;
import java.nio.file.Files;
import java.nio.file.Path;
import java.util.ArrayList;
import java.util.List;
import java.util.TreeMap;
import java.util.TreeSet;
import java.util.regex.Matcher;
import java.util.regex.Pattern;
import java.util.stream.Stream;
import javax.tools.JavaCompiler;
import javax.tools.ToolProvider;

/**
 * What README.md says. Its examples are made into a class as they stand, so that the calls made are
 * the calls shown and the answers due are those shown.
 */
public final class ReadmeTest {
    private static final Due DUE = new Due("ReadmeTest");
    private static final String NEW_OBJECT = "TurnedWords x = new TurnedWords();";
    private static final Pattern SHOWN =
            Pattern.compile("((?:x\\.)?(\\w+)\\(.*\\)); +// (-?\\d+|NONE|true|false)(?:[ :,].*)?");
    /** Calls that have an answer besides those that tell something. */
    private static final List<String> WITH_NONE = List.of(
            "feed", "end", "words", "pattern", "fault", "edit", "undo", "count", "word", "answer",
            "turn", "run", "of", "shared", "alone", "tally", "places", "instead");

    /** One example: the calls as they are written, and what stands behind each. */
    private static final class Example {
        final List<String> calls = new ArrayList<>();
        final List<String> answers = new ArrayList<>();
        final List<Integer> lines = new ArrayList<>();
    }

    private final List<Example> examples = new ArrayList<>();
    private final List<String> helpers = new ArrayList<>();
    private final List<String> prose = new ArrayList<>();
    /** The answers that are shown of each method. */
    private final TreeMap<String, TreeSet<String>> shown = new TreeMap<>();

    private ReadmeTest() {
    }

    public static void main(String[] args) throws Exception {
        ReadmeTest test = new ReadmeTest();
        test.read(Files.readAllLines(Path.of("README.md")));
        test.runExamples();
        test.showsAll();
        test.saysNoMore();
        test.tellsCounts();
        test.tellsLimits();
        test.namesTests();
        DUE.finish();
    }

    // ---- what stands there

    private void read(List<String> lines) {
        String kind = "";
        List<String> block = new ArrayList<>();
        for (int i = 0; i < lines.size(); i++) {
            String line = lines.get(i);
            if (!line.startsWith("```")) {
                (kind.isEmpty() ? prose : block).add(line);
            } else if (kind.isEmpty()) {
                kind = line;
            } else {
                takeBlock(kind, block, i + 1);
                kind = "";
                block.clear();
            }
        }
        DUE.is("the last block has an end", kind.isEmpty(), true);
    }

    private void takeBlock(String kind, List<String> block, int end) {
        if (kind.equals("```sh")) {
            return;
        }
        DUE.is("line " + end + ", a block of Java: " + kind, kind.equals("```java"), true);
        if (block.get(0).startsWith("static ")) {
            helpers.addAll(block);
            return;
        }
        DUE.isText("line " + end + ", an example's first line", block.get(0), NEW_OBJECT);
        Example example = new Example();
        for (int i = 1; i < block.size(); i++) {
            takeCall(example, block.get(i), end - block.size() + i);
        }
        examples.add(example);
    }

    /** Each line is a call with its answer, so that none is shown that is not compared. */
    private void takeCall(Example example, String text, int line) {
        Matcher matcher = SHOWN.matcher(text);
        if (!matcher.matches()) {
            DUE.is("line " + line + " is a call and its answer: " + text, 0, 1);
            return;
        }
        example.calls.add(matcher.group(1));
        example.answers.add(matcher.group(3));
        example.lines.add(line);
        shown.computeIfAbsent(matcher.group(2), key -> new TreeSet<>()).add(matcher.group(3));
    }

    // ---- the examples

    private String source() {
        StringBuilder code = new StringBuilder("public final class ReadmeExamples {\n");
        code.append("static long number(int n) { return n; }\n");
        code.append("static long number(boolean b) { return b ? 1 : 0; }\n");
        code.append(String.join("\n", helpers)).append('\n');
        for (int i = 0; i < examples.size(); i++) {
            List<String> calls = examples.get(i).calls;
            code.append("public static long[] example").append(i).append("() {\n");
            code.append("long[] got = new long[").append(calls.size()).append("];\n");
            code.append(NEW_OBJECT).append('\n');
            for (int call = 0; call < calls.size(); call++) {
                code.append("got[").append(call).append("] = number(").append(calls.get(call));
                code.append(");\n");
            }
            code.append("return got;\n}\n");
        }
        return code.append("}\n").toString();
    }

    private void runExamples() throws Exception {
        DUE.is("examples", examples.size() >= 6, true);
        Path folder = Files.createTempDirectory("readme");
        Path file = folder.resolve("ReadmeExamples.java");
        try {
            Files.writeString(file, source());
            JavaCompiler compiler = ToolProvider.getSystemJavaCompiler();
            int failed = compiler.run(null, null, null, "-cp",
                    System.getProperty("java.class.path"), "-d", folder.toString(), file.toString());
            DUE.is("the examples compile", failed, 0);
            if (failed == 0) {
                compareAll(folder);
            }
        } finally {
            delete(folder);
        }
    }

    private void compareAll(Path folder) throws Exception {
        URL[] places = {folder.toUri().toURL()};
        try (URLClassLoader loader = new URLClassLoader(places)) {
            Class<?> compiled = loader.loadClass("ReadmeExamples");
            for (int i = 0; i < examples.size(); i++) {
                compare(examples.get(i), (long[]) compiled.getMethod("example" + i).invoke(null));
            }
        }
    }

    private static void compare(Example example, long[] got) {
        for (int i = 0; i < got.length; i++) {
            DUE.is("README.md line " + example.lines.get(i) + ", " + example.calls.get(i), got[i],
                    number(example.answers.get(i)));
        }
    }

    private static long number(String answer) {
        switch (answer) {
            case "NONE":
                return TurnedWords.NONE;
            case "true":
                return 1;
            case "false":
                return 0;
            default:
                return Long.parseLong(answer);
        }
    }

    private static void delete(Path folder) throws IOException {
        List<Path> files;
        try (Stream<Path> found = Files.list(folder)) {
            files = found.toList();
        }
        for (Path file : files) {
            Files.delete(file);
        }
        Files.delete(folder);
    }

    // ---- that nothing is left out

    private static TreeSet<String> face() {
        TreeSet<String> names = new TreeSet<>();
        for (Method method : TurnedWords.class.getDeclaredMethods()) {
            if (Modifier.isPublic(method.getModifiers())) {
                names.add(method.getName());
            }
        }
        return names;
    }

    private void shows(String call, String answer) {
        boolean is = shown.getOrDefault(call, new TreeSet<>()).contains(answer);
        DUE.is("an example shows " + answer + " of " + call, is, true);
    }

    private void showsAll() {
        for (String call : face()) {
            DUE.is("an example shows " + call, shown.containsKey(call), true);
            DUE.is("the table has " + call, rowsOf("`" + call + "(").size(), 1);
        }
        for (String call : WITH_NONE) {
            shows(call, "NONE");
        }
        shows("alone", "-2");
        shows("near", "-2");
        for (String call : List.of("image", "again")) {
            shows(call, "true");
            shows(call, "false");
        }
        for (int kind = 0; kind <= 6; kind++) {
            shows("fault", "" + kind);
        }
    }

    /** Outside the examples no call stands with numbers, whose answer nobody would compare. */
    private void saysNoMore() {
        String names = String.join("|", face());
        Pattern call = Pattern.compile("\\b(" + names + ")\\( *(-?\\d|0x|true|false|NONE|')");
        for (String line : prose) {
            DUE.is("no call with numbers in: " + line, call.matcher(line).find(), false);
        }
    }

    // ---- the tables

    /** The rows of tables whose first cell begins so, cut into cells. */
    private List<String[]> rowsOf(String begin) {
        List<String[]> rows = new ArrayList<>();
        for (String line : prose) {
            if (line.startsWith("| " + begin)) {
                rows.add(line.substring(2).split(" \\| ?"));
            }
        }
        return rows;
    }

    private void tellsCounts() {
        int from = prose.indexOf("| what | `count(what)` |");
        DUE.is("the table of count", from >= 0, true);
        int rows = 0;
        for (int i = from + 2; from >= 0 && prose.get(i).startsWith("| "); i++) {
            DUE.is("count's row " + rows, prose.get(i).startsWith("| " + rows + " | "), true);
            rows++;
        }
        TurnedWords x = new TurnedWords();
        // what 12 is NONE without ANSWERS
        Due.words(x, "a");
        DUE.is("count has the last row", x.count(rows - 1) != TurnedWords.NONE, true);
        DUE.is("count has no row more", x.count(rows), TurnedWords.NONE);
    }

    private void limit(String name, int due) {
        List<String[]> rows = rowsOf(name + " |");
        DUE.is("limit: " + name, rows.size(), 1);
        for (String[] row : rows) {
            DUE.isText("limit: " + name, row[1], "" + due);
        }
    }

    private void tellsLimits() {
        limit("WORDS of the DICTIONARY", mostWords());
        limit("WORDS of COMING", mostComing());
        limit("letters of a WORD", mostLetters());
        limit("bytes of one feed", new TurnedWords().feed(0, 0, 0, 0, 0));
        limit("bytes on the tape", mostBytes());
        limit("signs of the PATTERN", mostSigns());
        limit("edits of a BATCH", mostEdits());
        limit("MERGES that can be UNDONE", mostUndone());
        limit("images", mostImages());
        // the document's number: nothing can be seen of it
        limit("calls on one object", 512);
    }

    private static int mostWords() {
        TurnedWords x = new TurnedWords();
        int many = 0;
        while (many < 60 && Due.words(x, Due.rows(many + 1)) == many + 1) {
            many++;
        }
        return many;
    }

    private static int mostComing() {
        TurnedWords x = Due.with(Due.rows(30));
        for (int i = 30; i < 60; i++) {
            x.cancel();
            Due.comes(x, Due.row(i));
            x.merge();
        }
        return x.count(3);
    }

    private static int mostLetters() {
        int letters = 0;
        while (letters < 20 && Due.with("a".repeat(letters + 1)).count(0) == 1) {
            letters++;
        }
        return letters;
    }

    private static int mostBytes() {
        TurnedWords x = new TurnedWords();
        for (int i = 0; i < 60; i++) {
            x.feed(0, 0, 0, 0, 0);
        }
        return x.count(14);
    }

    private static int mostSigns() {
        TurnedWords x = new TurnedWords();
        int signs = 0;
        while (signs < 40 && Due.pattern(x, "a".repeat(signs + 1)) == 1) {
            signs++;
        }
        return signs;
    }

    private static int mostEdits() {
        TurnedWords x = new TurnedWords();
        for (int i = 0; i < 30; i++) {
            Due.comes(x, Due.row(i));
        }
        return x.count(2);
    }

    private static int mostUndone() {
        TurnedWords x = new TurnedWords();
        for (int i = 0; i < 20; i++) {
            Due.comes(x, Due.row(i));
            x.merge();
        }
        return x.count(13);
    }

    private static int mostImages() {
        TurnedWords x = new TurnedWords();
        int images = 0;
        while (images < 20 && x.image(images)) {
            images++;
        }
        return images;
    }

    // ---- the tests

    private void namesTests() throws IOException {
        String text = String.join("\n", prose);
        try (Stream<Path> files = Files.list(Path.of("src/test/java"))) {
            for (Path file : files.toList()) {
                String name = file.getFileName().toString().replace(".java", "");
                if (name.endsWith("Test")) {
                    DUE.is("README.md names " + name, text.contains("`" + name + "`"), true);
                }
            }
        }
    }
}
