import java.util.List;
import java.util.TreeMap;
import java.util.function.Consumer;
import java.util.function.Function;

/**
 * What each call changes, and that it leaves all else as it was. All that is has seven parts here;
 * a part may be looked at by calls that change it, so an object is made anew for each look.
 */
public final class LeavesTest {
    private static final Due DUE = new Due("LeavesTest");
    private static final TreeMap<String, Function<TurnedWords, String>> PARTS = new TreeMap<>();
    private static final int[] ODD = {
        Integer.MIN_VALUE, -2, -1, 0, 1, 2, 3, 5, 7, 8, 10, 17, 36, 42, 63, 97, 122, 400,
        Integer.MAX_VALUE
    };

    private LeavesTest() {
    }

    public static void main(String[] args) {
        PARTS.put("tape", LeavesTest::tape);
        PARTS.put("words", LeavesTest::words);
        PARTS.put("batch", LeavesTest::batch);
        PARTS.put("pattern", LeavesTest::pattern);
        PARTS.put("fault", LeavesTest::fault);
        PARTS.put("undone", LeavesTest::undone);
        PARTS.put("images", LeavesTest::images);
        whatThereIs();
        theTape();
        wordsAndPattern();
        edits();
        refusedEdits();
        merges();
        imagesKept();
        asked();
        otherObjects();
        DUE.finish();
    }

    // ---- the parts

    private static String tape(TurnedWords x) {
        int bytes = x.count(14);
        x.words();
        return bytes + ": " + (x.fault(0) == 0 ? Due.all(x, false) : "no text");
    }

    /** Of many TURNS the first ones: an object is for 512 calls. */
    private static String words(TurnedWords x) {
        StringBuilder turns = new StringBuilder(Due.all(x, false)).append(" |");
        int many = Math.min(x.count(1), 20);
        for (int turn = 0; turn < many; turn++) {
            turns.append(' ').append(Due.turn(x, turn));
        }
        return turns.toString();
    }

    private static String batch(TurnedWords x) {
        return x.count(2) + ": " + Due.all(x, true);
    }

    private static String pattern(TurnedWords x) {
        StringBuilder text = new StringBuilder(x.count(6) + ": " + Due.runs(x) + " of");
        int signs = 0;
        while (signs < 20 && x.instead(signs, 42) != TurnedWords.NONE) {
            signs++;
        }
        return text.append(' ').append(signs).toString();
    }

    private static String fault(TurnedWords x) {
        return x.fault(0) + " at " + x.fault(1);
    }

    private static String undone(TurnedWords x) {
        StringBuilder text = new StringBuilder().append(x.count(13));
        for (int i = 0; i < 5 && x.undo() != TurnedWords.NONE; i++) {
            text.append(", ").append(Due.all(x, false));
        }
        return text.toString();
    }

    private static String images(TurnedWords x) {
        StringBuilder text = new StringBuilder();
        for (int k = 0; k < 3; k++) {
            if (x.again(k)) {
                text.append(k).append(" = ").append(Due.all(x, false)).append(", ").append(batch(x));
                text.append(", ").append(pattern(x)).append(", ").append(fault(x)).append(", ");
                text.append(tape(x)).append("; ");
            }
        }
        return text.toString();
    }

    // ---- how they are compared

    /** Something in each part. */
    private static TurnedWords full() {
        TurnedWords x = Due.with("img");
        x.image(1);
        Due.words(x, "ab b");
        Due.pattern(x, "*b*?");
        comesAndMerges(x, "c");
        comesAndMerges(x, "d");
        Due.comes(x, "q");
        Due.goes(x, "ab");
        Due.words(x, "a 1");
        Due.tape(x, "tape");
        return x;
    }

    private static void comesAndMerges(TurnedWords x, String word) {
        Due.comes(x, word);
        x.merge();
    }

    private static void puts(TurnedWords x, String text) {
        x.end(0);
        Due.tape(x, text);
    }

    private static TurnedWords after(List<Consumer<TurnedWords>> steps) {
        TurnedWords x = full();
        steps.forEach(step -> step.accept(x));
        return x;
    }

    /** Behind what goes ahead of it, the call makes these parts so (name, value, ..), no other. */
    private static void changes(String call, Consumer<TurnedWords> ahead,
            Consumer<TurnedWords> made, String... parts) {
        DUE.about(call);
        TreeMap<String, String> due = new TreeMap<>();
        for (int i = 0; i + 1 < parts.length; i += 2) {
            DUE.is("there is a part " + parts[i], PARTS.containsKey(parts[i]), true);
            due.put(parts[i], parts[i + 1]);
        }
        PARTS.forEach((name, look) -> {
            String before = look.apply(after(List.of(ahead)));
            String now = look.apply(after(List.of(ahead, made)));
            if (due.containsKey(name)) {
                DUE.is(name + " was otherwise (" + before + ")", before.equals(due.get(name)), false);
            }
            DUE.isText(name, now, due.getOrDefault(name, before));
        });
    }

    private static void changes(String call, Consumer<TurnedWords> made, String... parts) {
        changes(call, x -> { }, made, parts);
    }

    // ---- the calls

    private static void whatThereIs() {
        DUE.about("ahead of all calls");
        String[] due = {"batch", "2: b c d q", "fault", "1 at 2", "images",
            "1 = img, 0: img, 1: 0$ of 1, 0 at -1, 0: ; ", "pattern", "2: 0$ 1b of 4",
            "tape", "4: tape", "undone", "2, ab b c, ab b", "words",
            "ab b c d | $ab $b $c $d ab$ b$ b$a c$ d$"};
        for (int i = 0; i < due.length; i += 2) {
            DUE.isText(due[i], PARTS.get(due[i]).apply(full()), due[i + 1]);
        }
    }

    private static void theTape() {
        changes("feed", x -> x.feed(0x73206f66, 0x20757300, 0, 0, 0), "tape", "24: no text");
        changes("feed", x -> x.feed(0x73206f66, 0x20757320, 0x20202020, 0x20202020, 0x20202020),
                "tape", "24: of tapes us");
        changes("feed above 400", x -> puts(x, " ".repeat(380) + "z"),
                x -> x.feed(0x20202020, 0x20202020, 0x20202020, 0x20202020, 0x20202020));
        changes("end", x -> x.end(2), "tape", "2: ta");
        changes("end of 0", x -> x.end(0), "tape", "0: ");
        changes("end of all", x -> x.end(4));
        changes("end above", x -> x.end(5));
        changes("end below 0", x -> x.end(-1));
    }

    private static void wordsAndPattern() {
        changes("words", x -> x.words(), "tape", "0: ", "fault", "0 at -1", "batch", "0: tape",
                "words", "tape | $tape ape$t e$tap pe$ta tape$", "undone", "0");
        changes("words of none", x -> x.end(0), x -> x.words(), "fault", "0 at -1", "batch", "0: ",
                "words", " |", "undone", "0");
        changes("words with FAULT 1", x -> puts(x, "x y 1"), x -> x.words(), "tape", "0: ",
                "fault", "1 at 4");
        changes("words with FAULT 2", x -> puts(x, "x yyyyyyyyy"), x -> x.words(), "tape", "0: ",
                "fault", "2 at 9");
        changes("words with FAULT 3", x -> puts(x, "x y x"), x -> x.words(), "tape", "0: ",
                "fault", "3 at 4");
        changes("words with FAULT 4", x -> puts(x, Due.rows(41)), x -> x.words(), "tape", "0: ",
                "fault", "4 at 120");
        changes("pattern", x -> x.pattern(), "tape", "0: ", "fault", "0 at -1", "pattern",
                "1: 0tape$ of 4");
        changes("pattern with FAULT 1", x -> puts(x, "*B"), x -> x.pattern(), "tape", "0: ",
                "fault", "1 at 1");
        changes("pattern with FAULT 5", x -> puts(x, "z".repeat(13)), x -> x.pattern(), "tape",
                "0: ", "fault", "5 at 12");
        changes("pattern with FAULT 6", x -> x.end(0), x -> x.pattern(), "fault", "6 at 0");
    }

    private static void edits() {
        changes("edit", x -> x.edit(false), "tape", "0: ", "batch", "3: b c d q tape");
        changes("edit off", x -> puts(x, "c"), x -> x.edit(true), "tape", "0: ", "batch",
                "3: b d q");
        changes("edit of what went", x -> puts(x, "ab"), x -> x.edit(false), "tape", "0: ",
                "batch", "3: ab b c d q");
        changes("edit off of what came", x -> puts(x, "q"), x -> x.edit(true), "tape", "0: ",
                "batch", "3: b c d");
        changes("cancel", x -> x.cancel(), "batch", "0: ab b c d");
        changes("cancel of none", x -> x.cancel(), x -> x.cancel());
    }

    private static void refusedEdits() {
        changes("edit of no WORD", x -> puts(x, "a b"), x -> x.edit(false), "tape", "0: ");
        changes("edit of eight letters", x -> puts(x, "aaaaaaaa"), x -> x.edit(false), "tape", "0: ");
        changes("edit of nothing", x -> x.end(0), x -> x.edit(false));
        changes("edit of what is there", x -> puts(x, "q"), x -> x.edit(false), "tape", "0: ");
        changes("edit off of what is not", x -> puts(x, "ab"), x -> x.edit(true), "tape", "0: ");
        changes("edit, a 13th", x -> {
            x.end(0);
            for (int i = 0; i < 10; i++) {
                Due.comes(x, Due.row(i));
            }
            puts(x, "z");
        }, x -> x.edit(false), "tape", "0: ");
        changes("edit, a 41st", x -> {
            puts(x, Due.rows(40));
            x.words();
            puts(x, "z");
        }, x -> x.edit(false), "tape", "0: ");
    }

    private static void merges() {
        changes("merge", x -> x.merge(), "batch", "0: b c d q", "words",
                "b c d q | $b $c $d $q b$ c$ d$ q$", "undone", "3, ab b c d, ab b c, ab b");
        changes("merge of none", x -> x.cancel(), x -> x.merge());
        changes("a fifth merge", x -> {
            x.merge();
            x.end(0);
            comesAndMerges(x, "r");
            Due.goes(x, "r");
        }, x -> x.merge(), "batch", "0: b c d q", "words", "b c d q | $b $c $d $q b$ c$ d$ q$",
                "undone", "4, b c d q r, b c d q, ab b c d, ab b c");
        changes("undo", x -> x.undo(), "batch", "0: ab b c", "words",
                "ab b c | $ab $b $c ab$ b$ b$a c$", "undone", "1, ab b");
        changes("the last undo", x -> x.undo(), x -> x.undo(), "batch", "0: ab b", "words",
                "ab b | $ab $b ab$ b$ b$a", "undone", "0");
        changes("undo of none", x -> {
            x.words();
            Due.goes(x, "tape");
            Due.tape(x, "one");
        }, x -> x.undo());
    }

    private static void imagesKept() {
        String one = "1 = img, 0: img, 1: 0$ of 1, 0 at -1, 0: ; ";
        String now = " = ab b c d, 2: b c d q, 2: 0$ 1b of 4, 1 at 2, 4: tape; ";
        changes("image 0", x -> x.image(0), "images", "0" + now + one);
        changes("image 1", x -> x.image(1), "images", "1" + now);
        changes("image 2", x -> x.image(2), "images", one + "2" + now);
        changes("image 3", x -> x.image(3));
        changes("image -1", x -> x.image(-1));
        changes("again 1", x -> x.again(1), "tape", "0: ", "words", "img | $img g$im img$ mg$i",
                "batch", "0: img", "pattern", "1: 0$ of 1", "fault", "0 at -1", "undone", "0");
        changes("again 0", x -> x.again(0));
        changes("again 3", x -> x.again(3));
        changes("again -1", x -> x.again(-1));
        changes("again of what is now", x -> x.image(2), x -> x.again(2), "undone", "0");
        changes("an image, whatever is then", x -> x.image(2), x -> {
            x.edit(false);
            x.merge();
            Due.pattern(x, "z");
            x.again(2);
        }, "undone", "0");
    }

    // ---- what changes nothing

    private static void asks(String call, Consumer<TurnedWords> made) {
        changes(call, made);
    }

    private static void asked() {
        for (int odd : ODD) {
            asks("fault", x -> x.fault(odd));
            asks("count", x -> x.count(odd));
            asks("answer", x -> x.answer(odd, false));
            asks("answer", x -> x.answer(odd, true));
            asks("shared", x -> x.shared(odd));
            asks("tally", x -> x.tally(odd, false));
            asks("tally", x -> x.tally(odd, true));
        }
        asks("all counts", x -> {
            for (int what = 0; what <= 17; what++) {
                x.count(what);
            }
        });
        for (int odd : ODD) {
            asks("turn, run", x -> {
                for (int other : ODD) {
                    x.turn(odd, other);
                    x.run(odd, other);
                }
            });
            asks("word, of", x -> {
                for (int other : ODD) {
                    x.word(odd, false, other);
                    x.word(odd, true, other);
                    x.of(odd, other);
                }
            });
            asks("alone, near, places, instead", x -> {
                for (int other : ODD) {
                    x.alone(odd, other);
                    x.near(odd, other);
                    x.places(odd, other);
                    x.instead(odd, other);
                }
            });
        }
    }

    private static void otherObjects() {
        changes("calls on another object", x -> {
            TurnedWords y = full();
            y.image(0);
            y.image(1);
            y.edit(false);
            y.merge();
            y.undo();
            Due.pattern(y, "z");
            Due.words(y, "z zz zzz");
            y.again(1);
        });
    }
}
