/** The boundary cases that the promises name, a test of its own for each sentence. */
public final class PromiseEdgesTest {
    private static final Due DUE = new Due("PromiseEdgesTest");
    private static final int LOW = Integer.MIN_VALUE;
    private static final int HIGH = Integer.MAX_VALUE;

    private PromiseEdgesTest() {
    }

    public static void main(String[] args) {
        noWords();
        noImages();
        feedInOrder();
        moreThan400();
        endOutside();
        wordsTaken();
        wordsFault();
        patternTaken();
        patternFault();
        noFault();
        noPlace();
        anotherFault();
        noWord();
        inComing();
        twelveEdits();
        fortyFirst();
        editsItHad();
        emptyMerge();
        moved();
        noneUndone();
        noStem();
        noAsk();
        beginAlone();
        anotherCount();
        word();
        farBeyond();
        answer();
        turn();
        emptyRange();
        run();
        of();
        shared();
        noneTellsAlone();
        aloneOfNone();
        near();
        nearOfNone();
        tally();
        places();
        insteadOfItself();
        noSuchSign();
        noSuchByte();
        image();
        noSuchImage();
        again();
        DUE.finish();
    }

    private static void is(String call, long got, long due) {
        DUE.is(call, got, due);
    }

    private static void is(String call, boolean got, boolean due) {
        DUE.is(call, got, due);
    }

    private static void fault(TurnedWords x, int kind, int place) {
        is("fault(0)", x.fault(0), kind);
        is("fault(1)", x.fault(1), place);
    }

    private static void merged(TurnedWords x, String word) {
        Due.comes(x, word);
        x.merge();
    }

    /** Words, a pattern, two merges, two edits, an image: all that a refused call leaves. */
    private static TurnedWords full() {
        TurnedWords x = Due.with("img");
        x.image(1);
        Due.words(x, "ab abc");
        Due.pattern(x, "*b*?");
        merged(x, "b");
        merged(x, "cb");
        Due.comes(x, "q");
        Due.goes(x, "ab");
        return x;
    }

    /** What full() makes is still there, the undone merges and the image at the end, too. */
    private static void isFull(TurnedWords x) {
        DUE.isText("all stays", Due.seen(x), Due.seen(full()));
        is("the first MERGE stays", x.undo(), 1);
        DUE.isText("WORDS ahead of it", Due.all(x, false), "ab abc b");
        is("the second one stays", x.undo(), 0);
        DUE.isText("WORDS ahead of it", Due.all(x, false), "ab abc");
        is("no image 0", x.again(0), false);
        is("no image 2", x.again(2), false);
        is("image 1 stays", x.again(1), true);
        DUE.isText("its WORDS", Due.all(x, false), "img");
    }

    // ---- promises 1 to 6

    private static void noWords() {
        DUE.about("1, No WORDS");
        TurnedWords x = new TurnedWords();
        DUE.isText("counts", Due.counts(x), " 0 0 0 0 0 0 1 1 0 0 0 0 -1 0 0 0");
        is("count(14)", x.count(14), 0);
        is("word(0, false, 0)", x.word(0, false, 0), -1);
        is("word(0, true, 0)", x.word(0, true, 0), -1);
        is("turn(0, 0)", x.turn(0, 0), -1);
        is("answer(0, false)", x.answer(0, false), -1);
        is("of(0, 0)", x.of(0, 0), -1);
        is("shared(0)", x.shared(0), -1);
        is("tally(1, false)", x.tally(1, false), 0);
        is("merge()", x.merge(), 0);
        fault(x, 0, -1);
    }

    private static void noImages() {
        DUE.about("1, no images");
        TurnedWords x = new TurnedWords();
        for (int k = 0; k < 3; k++) {
            is("again(" + k + ")", x.again(k), false);
        }
        x.image(1);
        is("again(0)", x.again(0), false);
        is("again(1)", x.again(1), true);
        is("again(2)", x.again(2), false);
    }

    private static void feedInOrder() {
        DUE.about("2, twenty bytes, of each number the highest first");
        TurnedWords x = new TurnedWords();
        is("feed", x.feed(0x61626364, 0x65662067, 0x68696a6b, 0x6c0a6d6e, 0x6f707172), 20);
        is("feed", x.feed(0x73207475, 0x20202020, 0x20202020, 0x20202020, 0x2020207a), 40);
        is("words()", x.words(), 5);
        DUE.isText("WORDS", Due.all(x, false), "abcdef ghijkl mnopqrs tu z");
        int[] numbers = {LOW, HIGH, -1, 0};
        for (int number : numbers) {
            TurnedWords y = new TurnedWords();
            is("feed of " + number, y.feed(number, number, number, number, number), 20);
            is("words()", y.words(), -1);
            fault(y, 1, 0);
        }
        TurnedWords z = new TurnedWords();
        z.feed(0x20202020, 0x20202020, 0x20202020, 0x20202020, 0x616161ff);
        is("words()", z.words(), -1);
        fault(z, 1, 19);
    }

    private static void moreThan400() {
        DUE.about("2, NONE, and nothing comes, if there would be more than 400");
        TurnedWords x = new TurnedWords();
        Due.tape(x, "ab abc" + " ".repeat(374));
        is("to 400", x.feed(0x20202020, 0x20202020, 0x20202020, 0x20202020, 0x2020207a), 400);
        is("to 420", x.feed(0x62626262, 0x62626262, 0x62626262, 0x62626262, 0x62626262), -1);
        is("count(14)", x.count(14), 400);
        x.end(381);
        is("to 401", x.feed(0x62626262, 0x62626262, 0x62626262, 0x62626262, 0x62626262), -1);
        is("count(14)", x.count(14), 381);
        is("words()", x.words(), 2);
        DUE.isText("WORDS", Due.all(x, false), "ab abc");
        TurnedWords y = new TurnedWords();
        Due.tape(y, " ".repeat(379));
        is("to 399", y.feed(0, 0, 0, 0, 0), 399);
        is("to 419", y.feed(0, 0, 0, 0, 0), -1);
        y.end(380);
        is("to 400", y.feed(0, 0, 0, 0, 0), 400);
        TurnedWords z = full();
        Due.tape(z, "z".repeat(399));
        is("to 419", z.feed(0, 0, 0, 0, 0), -1);
        is("count(14)", z.count(14), 399);
        isFull(z);
    }

    private static void endOutside() {
        DUE.about("3, NONE if it has not so many, or n is below 0");
        TurnedWords x = full();
        Due.tape(x, "zy zx");
        int[] wrong = {6, 7, 20, 400, 401, HIGH, -1, -2, LOW};
        for (int n : wrong) {
            is("end(" + n + ")", x.end(n), -1);
            is("count(14)", x.count(14), 5);
        }
        isFull(x);
        TurnedWords y = new TurnedWords();
        is("end(1) of an empty tape", y.end(1), -1);
        is("end(0) of an empty tape", y.end(0), 0);
        Due.tape(y, "zy zx");
        is("end(5)", y.end(5), 5);
        is("end(4)", y.end(4), 4);
        is("end(5)", y.end(5), -1);
        is("words()", y.words(), 2);
        DUE.isText("WORDS", Due.all(y, false), "z zy");
        Due.tape(y, "zy");
        is("end(0)", y.end(0), 0);
        is("end(1)", y.end(1), -1);
        is("words()", y.words(), 0);
    }

    private static void wordsTaken() {
        DUE.about("4, the DICTIONARY is of its WORDS, the BATCH empty, the PATTERN stays");
        TurnedWords x = full();
        is("words()", Due.words(x, "zb\nyy"), 2);
        is("count(14)", x.count(14), 0);
        DUE.isText("WORDS", Due.all(x, false), "yy zb");
        DUE.isText("COMING", Due.all(x, true), "yy zb");
        is("count(2)", x.count(2), 0);
        DUE.isText("RUNS", Due.runs(x), "0$ 1b");
        is("words() of nothing", x.words(), 0);
        is("count(0)", x.count(0), 0);
        DUE.isText("RUNS", Due.runs(x), "0$ 1b");
        is("words() of 40", Due.words(x, Due.rows(40)), 40);
    }

    private static void wordsFault() {
        DUE.about("4, NONE: a FAULT (all else stays)");
        String[] texts = {"1", "x yyyyyyyy", "x y x", Due.rows(41)};
        int[] places = {0, 9, 4, 120};
        for (int i = 0; i < texts.length; i++) {
            TurnedWords x = full();
            is("words() of " + texts[i], Due.words(x, texts[i]), -1);
            fault(x, i + 1, places[i]);
            is("count(14)", x.count(14), 0);
            isFull(x);
        }
    }

    private static void patternTaken() {
        DUE.about("5, the tape is taken as the PATTERN: how many PIECES");
        TurnedWords x = full();
        is("pattern()", Due.pattern(x, "a*b*c"), 2);
        is("count(14)", x.count(14), 0);
        DUE.isText("RUNS", Due.runs(x), "0c$a 1b");
        DUE.isText("WORDS", Due.all(x, false), "ab abc b cb");
        DUE.isText("COMING", Due.all(x, true), "abc b cb q");
        is("count(2)", x.count(2), 2);
        is("count(13)", x.count(13), 2);
        is("one PIECE", Due.pattern(x, "?"), 1);
        is("six PIECES", Due.pattern(x, "*a*b*c*d*e*f"), 6);
    }

    private static void patternFault() {
        DUE.about("5, NONE: a FAULT (it stays)");
        String[] texts = {"", "a*B", "abcdefghijklm"};
        int[] kinds = {6, 1, 5};
        int[] places = {0, 2, 12};
        for (int i = 0; i < texts.length; i++) {
            TurnedWords x = full();
            is("pattern() of " + texts[i], Due.pattern(x, texts[i]), -1);
            fault(x, kinds[i], places[i]);
            is("count(14)", x.count(14), 0);
            is("its last sign", x.instead(3, 99), 1);
            is("no other", x.instead(4, 99), -1);
            isFull(x);
        }
    }

    private static void noFault() {
        DUE.about("6, what 0: the FAULT, 0 without");
        TurnedWords x = new TurnedWords();
        is("fault(0)", x.fault(0), 0);
        Due.words(x, "a 1");
        is("fault(0)", x.fault(0), 1);
        Due.words(x, "a");
        is("fault(0)", x.fault(0), 0);
        Due.pattern(x, "");
        is("fault(0)", x.fault(0), 6);
        Due.pattern(x, "a");
        is("fault(0)", x.fault(0), 0);
        Due.words(x, "abcdefgh");
        is("fault(0)", x.fault(0), 2);
        Due.pattern(x, "*");
        is("of the latest", x.fault(0), 0);
        Due.pattern(x, "$");
        Due.words(x, "");
        is("of the latest", x.fault(0), 0);
    }

    private static void noPlace() {
        DUE.about("6, what 1: its place, NONE without");
        TurnedWords x = new TurnedWords();
        is("fault(1)", x.fault(1), -1);
        Due.words(x, "1");
        is("fault(1)", x.fault(1), 0);
        Due.words(x, "a");
        is("fault(1)", x.fault(1), -1);
        Due.pattern(x, "");
        is("fault(1)", x.fault(1), 0);
        Due.comes(x, "1");
        Due.comes(x, "z");
        x.merge();
        is("edit() is none of them", x.fault(1), 0);
        Due.pattern(x, "a");
        is("fault(1)", x.fault(1), -1);
    }

    private static void anotherFault() {
        DUE.about("6, NONE for another what");
        int[] wrong = {-1, -2, 2, 3, LOW, HIGH};
        TurnedWords x = new TurnedWords();
        TurnedWords y = new TurnedWords();
        Due.words(y, "a 1");
        for (int what : wrong) {
            is("fault(" + what + ")", x.fault(what), -1);
            is("fault(" + what + ") with a FAULT", y.fault(what), -1);
        }
    }

    // ---- promises 7 to 10

    /** The edit is refused, the tape is empty, all else stays. */
    private static void refused(String word, boolean off) {
        TurnedWords x = full();
        Due.tape(x, word);
        is("edit(" + off + ") of " + word, x.edit(off), -1);
        is("count(14)", x.count(14), 0);
        fault(x, 0, -1);
        isFull(x);
    }

    private static void noWord() {
        DUE.about("7, NONE, and the BATCH stays: no WORD");
        String[] wrong = {"", " ", "\n", " b", "b ", "b\n", "b b", "z1", "1", "`", "{", "?", "*",
            "$", "" + (char) 0, "b" + (char) 0, "Z", "zzzzzzzz", "z".repeat(400)};
        for (String text : wrong) {
            refused(text, false);
            refused(text, true);
        }
        TurnedWords x = Due.with("abcdefg");
        is("a row of 8, the first 7 there", Due.goes(x, "abcdefgh"), -1);
        is("a row of 7", Due.goes(x, "abcdefg"), 1);
        is("a row of 8", Due.comes(x, "abcdefgh"), -1);
        is("a row of 1", Due.comes(x, "a"), 2);
        is("a blank behind", Due.goes(x, "a "), -1);
        is("none", Due.goes(x, "a"), 3);
    }

    private static void inComing() {
        DUE.about("7, NONE, and the BATCH stays: it is in COMING already (it is not)");
        refused("abc", false);
        refused("cb", false);
        refused("q", false);
        refused("ab", true);
        refused("zz", true);
        refused("a", true);
        refused("abcd", true);
        TurnedWords x = full();
        is("what went may come", Due.comes(x, "ab"), 3);
        is("what came may go", Due.goes(x, "q"), 4);
        is("what came back is there", Due.comes(x, "ab"), -1);
        is("what went away is not", Due.goes(x, "q"), -1);
        is("count(2)", x.count(2), 4);
    }

    private static void twelveEdits() {
        DUE.about("7, NONE, and the BATCH stays: there are 12");
        TurnedWords x = Due.with("z");
        for (int i = 0; i < 11; i++) {
            Due.comes(x, Due.row(i));
        }
        is("a wrong one is none of them", Due.comes(x, "aa"), -1);
        is("the 12th", Due.goes(x, "z"), 12);
        String seen = Due.counts(x);
        is("a 13th that comes", Due.comes(x, "z"), -1);
        is("count(14)", x.count(14), 0);
        is("a 13th that goes", Due.goes(x, "aa"), -1);
        is("count(14)", x.count(14), 0);
        DUE.isText("all stays", Due.counts(x), seen);
        DUE.isText("COMING", Due.all(x, true), Due.rows(11).trim());
        x.merge();
        DUE.isText("WORDS", Due.all(x, false), Due.rows(11).trim());
    }

    private static void fortyFirst() {
        DUE.about("7, NONE, and the BATCH stays: COMING would have a 41st");
        TurnedWords x = Due.with(Due.rows(40));
        String seen = Due.counts(x);
        is("a 41st", Due.comes(x, "a"), -1);
        is("one that is there", Due.comes(x, "aa"), -1);
        is("count(14)", x.count(14), 0);
        DUE.isText("all stays", Due.counts(x), seen);
        is("one goes", Due.goes(x, "bn"), 1);
        is("the 40th", Due.comes(x, "zz"), 2);
        is("a 41st", Due.comes(x, "bn"), -1);
        is("count(3)", x.count(3), 40);
        DUE.isText("the last of COMING", Due.text(x, 39, true), "zz");
        DUE.isText("the last WORD", Due.text(x, 39, false), "bn");
        TurnedWords y = Due.with(Due.rows(39));
        is("the 40th", Due.comes(y, "zy"), 1);
        is("a 41st of COMING", Due.comes(y, "zz"), -1);
        is("count(2)", y.count(2), 1);
    }

    private static void editsItHad() {
        DUE.about("8, the BATCH is empty: how many edits it had");
        TurnedWords x = Due.with("a b");
        is("cancel() of none", x.cancel(), 0);
        Due.comes(x, "c");
        is("cancel() of 1", x.cancel(), 1);
        is("cancel() of none", x.cancel(), 0);
        for (int i = 0; i < 14; i++) {
            Due.comes(x, Due.row(i));
        }
        is("cancel() of 12", x.cancel(), 12);
        is("count(2)", x.count(2), 0);
        DUE.isText("COMING", Due.all(x, true), "a b");
        DUE.isText("WORDS", Due.all(x, false), "a b");
        Due.comes(x, "c");
        Due.goes(x, "c");
        is("that comes and goes", x.cancel(), 2);
        TurnedWords y = full();
        Due.tape(y, "tape");
        is("cancel()", y.cancel(), 2);
        is("the tape stays", y.count(14), 4);
        is("MERGES stay", y.count(13), 2);
        is("merge() then", y.merge(), 0);
        is("is none", y.count(13), 2);
    }

    private static void emptyMerge() {
        DUE.about("9, a MERGE of an empty BATCH");
        TurnedWords x = full();
        x.cancel();
        Due.words(x, "1");
        Due.tape(x, "tape");
        String seen = Due.seen(x);
        is("merge()", x.merge(), 0);
        DUE.isText("all stays", Due.seen(x), seen);
        is("count(14)", x.count(14), 4);
        fault(x, 1, 0);
        is("undo()", x.undo(), 1);
        DUE.isText("WORDS", Due.all(x, false), "ab abc b");
        is("merge()", x.merge(), 0);
        is("undo()", x.undo(), 0);
        TurnedWords y = new TurnedWords();
        is("merge() without WORDS", y.merge(), 0);
        is("count(13)", y.count(13), 0);
    }

    private static void moved() {
        DUE.about("9, MERGE: how many TURNS MOVED");
        TurnedWords x = new TurnedWords();
        Due.comes(x, "b");
        is("no WORD stays", x.merge(), 0);
        // $b b$, then $b $z b$ z$
        Due.comes(x, "z");
        is("one MOVED", x.merge(), 1);
        // $a $b $z a$ b$ z$
        Due.comes(x, "a");
        is("all MOVED", x.merge(), 4);
        Due.goes(x, "a");
        is("and back", x.merge(), 4);
        Due.goes(x, "b");
        Due.goes(x, "z");
        is("none is left", x.merge(), 0);
        is("count(0)", x.count(0), 0);
        is("count(1)", x.count(1), 0);
        is("count(13)", x.count(13), 4);
    }

    private static void noneUndone() {
        DUE.about("10, NONE: none can");
        TurnedWords x = Due.with("a b");
        Due.comes(x, "c");
        Due.words(x, "1");
        Due.tape(x, "tape");
        String seen = Due.seen(x);
        is("undo()", x.undo(), -1);
        DUE.isText("all stays", Due.seen(x), seen);
        is("count(14)", x.count(14), 4);
        fault(x, 1, 0);
        x.merge();
        is("undo() of the only one", x.undo(), 0);
        is("undo()", x.undo(), -1);
        DUE.isText("WORDS", Due.all(x, false), "a b");
        is("undo() of a new object", new TurnedWords().undo(), -1);
    }

    // ---- promises 11 to 17

    private static void noStem() {
        DUE.about("11, STEM (0 without ANSWERS)");
        TurnedWords x = new TurnedWords();
        is("without WORDS", x.count(11), 0);
        Due.words(x, "abc abd");
        Due.pattern(x, "z*");
        Due.comes(x, "zab");
        is("without ANSWERS", x.count(11), 0);
        x.merge();
        is("of one ANSWER", x.count(11), 3);
        Due.pattern(x, "a*");
        is("of two", x.count(11), 2);
        Due.pattern(x, "*");
        is("with nothing alike", x.count(11), 0);
        Due.words(x, "abcdef abcdefg");
        is("one begins the other", x.count(11), 6);
        Due.words(x, "abcdefg");
        is("of seven letters", x.count(11), 7);
    }

    private static void noAsk() {
        DUE.about("11, ASK (NONE without ANSWERS)");
        TurnedWords x = new TurnedWords();
        is("without WORDS", x.count(12), -1);
        Due.words(x, "abc abd");
        Due.pattern(x, "z*");
        Due.comes(x, "zab");
        is("without ANSWERS", x.count(12), -1);
        x.merge();
        is("of one ANSWER", x.count(12), 0);
        Due.pattern(x, "a*");
        is("of two", x.count(12), 2);
    }

    private static void beginAlone() {
        DUE.about("11, how many begin with a letter that no other one begins with");
        TurnedWords x = new TurnedWords();
        is("of no WORDS", x.count(16), 0);
        Due.words(x, "abcdefg");
        is("of one", x.count(16), 1);
        Due.words(x, "a ab");
        is("of two alike", x.count(16), 0);
        Due.words(x, "a ab b");
        is("the last one", x.count(16), 1);
        Due.words(x, "a b ba");
        is("the first one", x.count(16), 1);
        Due.comes(x, "ab");
        is("of the DICTIONARY", x.count(16), 1);
        Due.goes(x, "b");
        Due.goes(x, "ba");
        Due.goes(x, "ab");
        Due.goes(x, "a");
        is("not of COMING", x.count(16), 1);
        Due.words(x, "a b c d e f g h i j k l m n o p q r s t u v w x y z");
        is("all letters", x.count(16), 26);
    }

    private static void anotherCount() {
        DUE.about("11, NONE for another what");
        int[] wrong = {-1, -2, 17, 18, 256, LOW, HIGH};
        TurnedWords x = new TurnedWords();
        TurnedWords y = full();
        for (int what : wrong) {
            is("count(" + what + ")", x.count(what), -1);
            is("count(" + what + ")", y.count(what), -1);
        }
        is("count(0)", y.count(0), 4);
        is("count(16)", y.count(16), 2);
    }

    private static void word() {
        DUE.about("12, NONE: there is none such (of either)");
        TurnedWords x = Due.with("abcdefg b");
        Due.pattern(x, "b");
        Due.comes(x, "c");
        int[] wrongWords = {-1, 2, 3, 40, LOW, HIGH};
        for (int word : wrongWords) {
            for (int what = -1; what <= 11; what++) {
                is("word(" + word + ", false, " + what + ")", x.word(word, false, what), -1);
            }
        }
        int[] wrong = {-1, -2, 8, 9, 11, 12, LOW, HIGH};
        for (int what : wrong) {
            is("word(0, false, " + what + ")", x.word(0, false, what), -1);
            is("word(1, true, " + what + ")", x.word(1, true, what), -1);
        }
        is("the 1st of one letter", x.word(1, false, 1), 98);
        is("a 2nd of one letter", x.word(1, false, 2), -1);
        is("the 7th of seven", x.word(0, false, 7), 103);
        is("MEETS not", x.word(0, false, 10), 0);
        is("MEETS", x.word(1, false, 10), 1);
        is("the last of COMING", x.word(2, true, 0), 1);
        is("its letter", x.word(2, true, 1), 99);
        is("it MEETS not", x.word(2, true, 10), 0);
        is("no more of COMING", x.word(3, true, 0), -1);
        is("no more of COMING", x.word(3, true, 10), -1);
        is("word(-1, true, 0)", x.word(-1, true, 0), -1);
        is("word(LOW, true, 10)", x.word(LOW, true, 10), -1);
        is("word(HIGH, true, 10)", x.word(HIGH, true, 10), -1);
        Due.goes(x, "b");
        Due.goes(x, "c");
        is("fewer of COMING", x.word(1, true, 0), -1);
        is("than of WORDS", x.word(1, false, 0), 1);
    }

    private static void farBeyond() {
        DUE.about("12, 14, 15, NONE: there is none such, far beyond");
        TurnedWords x = Due.with("zzzzzzz");
        Due.pattern(x, "zzzzzzz");
        for (int what = 11; what < 150; what++) {
            is("word(0, false, " + what + ")", x.word(0, false, what), -1);
            is("turn(0, " + what + ")", x.turn(0, what), -1);
            is("run(0, " + (what + 2) + ")", x.run(0, what + 2), -1);
        }
        TurnedWords y = Due.with("zzzzzzz");
        Due.pattern(y, "zzzzzzz");
        for (int what = -150; what < 0; what++) {
            is("word(0, false, " + what + ")", y.word(0, false, what), -1);
            is("turn(0, " + what + ")", y.turn(0, what), -1);
            is("run(0, " + what + ")", y.run(0, what), -1);
        }
    }

    private static void answer() {
        DUE.about("13, NONE: not so many");
        TurnedWords x = Due.with("ab b bb");
        Due.pattern(x, "?b");
        Due.comes(x, "aa");
        Due.comes(x, "cb");
        is("answer(0, false)", x.answer(0, false), 0);
        is("answer(1, false)", x.answer(1, false), 2);
        is("answer(2, false)", x.answer(2, false), -1);
        is("answer(0, true)", x.answer(0, true), 1);
        is("answer(2, true)", x.answer(2, true), 4);
        is("answer(3, true)", x.answer(3, true), -1);
        int[] wrong = {-1, -2, LOW, HIGH, 40, 64};
        for (int k : wrong) {
            is("answer(" + k + ", false)", x.answer(k, false), -1);
            is("answer(" + k + ", true)", x.answer(k, true), -1);
        }
        Due.pattern(x, "z");
        is("of none", x.answer(0, false), -1);
        is("of none", x.answer(0, true), -1);
        TurnedWords y = Due.with(Due.rows(40));
        is("the 40th", y.answer(39, false), 39);
        is("the 40th of COMING", y.answer(39, true), 39);
        is("a 41st", y.answer(40, false), -1);
    }

    private static void turn() {
        DUE.about("14, NONE: there is none such (of either)");
        TurnedWords x = Due.with("abcdefg b");
        // $abcdefg $b abcdefg$ b$ bcdefg$a ..
        int[] wrongTurns = {-1, -2, 10, 11, 320, LOW, HIGH};
        int[] whats = {0, 1, 2, 9, -1, LOW, HIGH};
        for (int turn : wrongTurns) {
            for (int what : whats) {
                is("turn(" + turn + ", " + what + ")", x.turn(turn, what), -1);
            }
        }
        int[] wrong = {-1, -2, 10, 11, LOW, HIGH};
        for (int what : wrong) {
            is("turn(0, " + what + ")", x.turn(0, what), -1);
            is("turn(9, " + what + ")", x.turn(9, what), -1);
        }
        is("the last TURN's WORD", x.turn(9, 0), 0);
        is("the last TURN's k", x.turn(9, 1), 6);
        is("its first SIGN", x.turn(9, 2), 103);
        is("its last SIGN", x.turn(9, 9), 102);
        is("the last SIGN of two", x.turn(3, 3), 36);
        is("a third", x.turn(3, 4), -1);
        Due.comes(x, "c");
        is("none of COMING", x.turn(10, 0), -1);
        is("without WORDS", new TurnedWords().turn(0, 0), -1);
        TurnedWords y = Due.with(Due.rows(40));
        is("the 120th", y.turn(119, 0), 25);
        is("a 121st", y.turn(120, 0), -1);
    }

    private static void emptyRange() {
        DUE.about("15, the first TURN of its RANGE (NONE: it is empty)");
        TurnedWords x = Due.with("b c");
        // $b $c b$ c$
        String[] runs = {"a", "b", "bb", "c", "cc", "d"};
        int[] first = {-1, 2, -1, 3, -1, -1};
        for (int i = 0; i < runs.length; i++) {
            Due.pattern(x, "*" + runs[i] + "*");
            int many = first[i] == -1 ? 0 : 1;
            is("run(1, 2) of " + runs[i], x.run(1, 2), first[i]);
            is("run(1, 3) of " + runs[i], x.run(1, 3), many);
            is("run(1, 4) of " + runs[i], x.run(1, 4), many);
            is("run(0, 2) of $", x.run(0, 2), 0);
        }
        TurnedWords y = new TurnedWords();
        is("run(0, 2) without WORDS", y.run(0, 2), -1);
        is("run(0, 3) without WORDS", y.run(0, 3), 0);
        is("run(0, 4) without WORDS", y.run(0, 4), 0);
        Due.words(y, "abcdefg");
        Due.pattern(y, "abcdefg");
        is("all eight SIGNS", y.run(0, 2), 1);
        Due.pattern(y, "abcdefga");
        is("nine SIGNS", y.run(0, 2), -1);
        Due.pattern(y, "*abcdefgh*");
        is("eight letters", y.run(1, 2), -1);
        String[] behind = {"a", "ab", "abc", "abcd"};
        for (String more : behind) {
            // the RUN is all of a TURN and letters more
            Due.pattern(y, more + "*abcdefg");
            is("run(0, 0) of abcdefg$" + more, y.run(0, 0), 8 + more.length());
            is("run(0, 2) of abcdefg$" + more, y.run(0, 2), -1);
            is("run(0, 3) of abcdefg$" + more, y.run(0, 3), 0);
            is("run(0, 4) of abcdefg$" + more, y.run(0, 4), 0);
        }
        String twelve = "abcdefgabcde";
        for (int signs = 8; signs <= 12; signs++) {
            Due.pattern(y, twelve.substring(0, signs));
            is("run(0, 2) of more than eight", y.run(0, 2), -1);
            is("run(0, 3) of more than eight", y.run(0, 3), 0);
        }
    }

    private static void run() {
        DUE.about("15, NONE: there is none such (of either)");
        TurnedWords x = Due.with("ab abc");
        Due.pattern(x, "a*bc*b?c");
        // b, c$a, bc
        int[] wrongRuns = {-1, -2, 3, 4, 13, LOW, HIGH};
        int[] whats = {0, 1, 2, 3, 4, 5, -1, LOW, HIGH};
        for (int run : wrongRuns) {
            for (int what : whats) {
                is("run(" + run + ", " + what + ")", x.run(run, what), -1);
            }
        }
        int[] wrong = {-1, -2, 8, 9, LOW, HIGH};
        for (int what : wrong) {
            for (int run = 0; run < 3; run++) {
                is("run(" + run + ", " + what + ")", x.run(run, what), -1);
            }
        }
        is("the only SIGN of b", x.run(0, 5), 98);
        is("a 2nd", x.run(0, 6), -1);
        is("the 3rd of c$a", x.run(1, 7), 97);
        is("the 2nd of bc", x.run(2, 6), 99);
        is("a 3rd", x.run(2, 7), -1);
        Due.pattern(x, "abcdefghijkl");
        is("the 13th SIGN", x.run(0, 17), 36);
        is("a 14th", x.run(0, 18), -1);
        Due.pattern(x, "a?a?a?a?a?a?");
        is("the 7th RUN", x.run(6, 5), 36);
        is("an 8th", x.run(7, 0), -1);
    }

    private static void of() {
        DUE.about("16, NONE: there is none such (of either)");
        TurnedWords x = Due.with("ab abc b");
        Due.pattern(x, "*c*zz*");
        int[] wrong = {-1, -2, 3, 4, 13, 64, LOW, HIGH};
        for (int i : wrong) {
            is("of(" + i + ", 0)", x.of(i, 0), -1);
            is("of(" + i + ", -1)", x.of(i, -1), -1);
            is("of(0, " + i + ")", x.of(0, i), -1);
            is("of(1, " + i + ")", x.of(1, i), -1);
        }
        is("the last WORD of $", x.of(0, 2), 2);
        is("the WORD of c", x.of(1, 0), 1);
        is("a 2nd", x.of(1, 1), -1);
        is("of an empty RANGE", x.of(2, 0), -1);
        TurnedWords y = Due.with(Due.rows(40));
        is("the 40th", y.of(0, 39), 39);
        is("a 41st", y.of(0, 40), -1);
    }

    private static void shared() {
        DUE.about("17, NONE: not so many");
        TurnedWords x = Due.with("ab abc b");
        Due.pattern(x, "*a*b*");
        is("shared(0)", x.shared(0), 0);
        is("shared(1)", x.shared(1), 1);
        int[] wrong = {-1, -2, 2, 3, 40, 64, LOW, HIGH};
        for (int k : wrong) {
            is("shared(" + k + ")", x.shared(k), -1);
        }
        Due.pattern(x, "*z*b*");
        is("shared(0) of none", x.shared(0), -1);
        is("count(10)", x.count(10), 0);
        TurnedWords y = Due.with(Due.rows(40));
        is("the 40th", y.shared(39), 39);
        is("a 41st", y.shared(40), -1);
    }

    // ---- promises 18 to 24

    private static void noneTellsAlone() {
        DUE.about("18, -2: none tells it alone");
        // $a $ab $ba a$ a$b ab$ b$a ba$
        TurnedWords x = Due.with("a ab ba");
        for (int what = 0; what <= 2; what++) {
            is("alone(0, " + what + ")", x.alone(0, what), -2);
        }
        is("alone(1, 0)", x.alone(1, 0), 2);
        // without ba: $a $ab a$ ab$ b$a
        Due.goes(x, "ba");
        is("of the DICTIONARY, not COMING", x.alone(0, 0), -2);
        x.merge();
        is("alone(0, 0)", x.alone(0, 0), 2);
        is("alone(0, 1)", x.alone(0, 1), 0);
        is("alone(0, 2)", x.alone(0, 2), 2);
        TurnedWords y = Due.with("a");
        is("the only WORD", y.alone(0, 0), 1);
    }

    private static void aloneOfNone() {
        DUE.about("18, NONE: there is no such WORD, another what");
        TurnedWords x = Due.with("a ab ba");
        Due.comes(x, "c");
        int[] wrong = {-1, -2, 3, 4, 40, LOW, HIGH};
        for (int i : wrong) {
            for (int what = -1; what <= 3; what++) {
                is("alone(" + i + ", " + what + ")", x.alone(i, what), -1);
            }
            is("alone(0, " + i + "), ahead of -2", x.alone(0, i), -1);
            is("alone(1, " + i + ")", x.alone(1, i), -1);
        }
        is("the last WORD", x.alone(2, 0), 2);
        is("without WORDS", new TurnedWords().alone(0, 0), -1);
    }

    private static void near() {
        DUE.about("19, how many (k NONE), or the k-th, -2: not so many");
        TurnedWords x = Due.with("ab ac bb cc d");
        // of ab: ac, bb
        is("near(0, -1)", x.near(0, -1), 2);
        is("near(0, 0)", x.near(0, 0), 1);
        is("near(0, 1)", x.near(0, 1), 2);
        int[] wrong = {2, 3, 40, 64, -2, -3, LOW, HIGH};
        for (int k : wrong) {
            is("near(0, " + k + ")", x.near(0, k), -2);
            is("near(4, " + k + ")", x.near(4, k), -2);
        }
        is("of d how many", x.near(4, -1), 0);
        is("of d the first", x.near(4, 0), -2);
        TurnedWords y = Due.with("a b c d e f g h i j k l m n o p q r s t u v w x y z");
        is("of z how many", y.near(25, -1), 25);
        is("of z the last", y.near(25, 24), 24);
        is("of a the last", y.near(0, 24), 25);
        is("one more", y.near(25, 25), -2);
    }

    private static void nearOfNone() {
        DUE.about("19, -2: there is no such WORD");
        TurnedWords x = Due.with("ab ac bb cc d");
        Due.comes(x, "e");
        int[] wrong = {-1, -2, 5, 6, 40, LOW, HIGH};
        for (int word : wrong) {
            is("near(" + word + ", -1)", x.near(word, -1), -2);
            is("near(" + word + ", 0)", x.near(word, 0), -2);
            is("near(" + word + ", HIGH)", x.near(word, HIGH), -2);
        }
        is("without WORDS", new TurnedWords().near(0, -1), -2);
    }

    private static void tally() {
        DUE.about("20, NONE: another n");
        TurnedWords x = Due.with("a abcdefg z zz");
        is("tally(1, false)", x.tally(1, false), 2);
        is("tally(6, false)", x.tally(6, false), 0);
        is("tally(7, false)", x.tally(7, false), 1);
        int[] wrong = {0, 8, 9, -1, -7, 97, 122, LOW, HIGH};
        for (int n : wrong) {
            is("tally(" + n + ", false)", x.tally(n, false), -1);
        }
        is("tally(97, true)", x.tally(97, true), 2);
        is("tally(122, true)", x.tally(122, true), 2);
        is("tally(121, true)", x.tally(121, true), 0);
        int[] wrongLetters = {96, 95, 123, 124, 0, 1, 7, 36, 65, -1, -97, 353, LOW, HIGH};
        for (int n : wrongLetters) {
            is("tally(" + n + ", true)", x.tally(n, true), -1);
        }
    }

    private static void places() {
        DUE.about("21, NONE: there is none such");
        TurnedWords x = Due.with("abacada zz");
        Due.comes(x, "zzz");
        is("the first place and the last", x.places(0, 97), 85);
        is("both of two", x.places(1, 122), 3);
        is("a letter that it has not", x.places(0, 122), 0);
        int[] wrongWords = {-1, -2, 2, 3, 40, LOW, HIGH};
        for (int word : wrongWords) {
            is("places(" + word + ", 97)", x.places(word, 97), -1);
            is("places(" + word + ", 122)", x.places(word, 122), -1);
        }
        int[] wrong = {96, 123, 95, 124, 36, 0, 1, 2, 65, -1, 353, 129, LOW, HIGH};
        for (int letter : wrong) {
            is("places(0, " + letter + ")", x.places(0, letter), -1);
            is("places(1, " + letter + ")", x.places(1, letter), -1);
        }
        is("without WORDS", new TurnedWords().places(0, 97), -1);
    }

    private static void insteadOfItself() {
        DUE.about("22, (also the one that it is)");
        TurnedWords x = Due.with("ab abc abcd b bb");
        Due.pattern(x, "a?*");
        is("count(4)", x.count(4), 3);
        is("a for a", x.instead(0, 97), 3);
        is("? for ?", x.instead(1, 63), 3);
        is("* for *", x.instead(2, 42), 3);
        is("z for a", x.instead(0, 122), 0);
        is("? for a", x.instead(0, 63), 4);
        is("* for a", x.instead(0, 42), 5);
        is("a for ?", x.instead(1, 97), 0);
        is("* for ?", x.instead(1, 42), 3);
        is("? for *", x.instead(2, 63), 1);
        is("the PATTERN stays", x.count(4), 3);
        DUE.isText("its RUNS stay", Due.runs(x), "0$a");
    }

    private static void noSuchSign() {
        DUE.about("22, NONE: there is no such sign");
        TurnedWords x = Due.with("ab abc b");
        int[] wrong = {1, 2, 11, 12, 13, -1, -2, LOW, HIGH};
        for (int i : wrong) {
            is("instead(" + i + ", 42) of *", x.instead(i, 42), -1);
        }
        is("instead(0, 42) of *", x.instead(0, 42), 3);
        Due.pattern(x, "a***********");
        is("the first of 12", x.instead(0, 98), 1);
        is("the 12th", x.instead(11, 122), 0);
        is("a 13th", x.instead(12, 42), -1);
        is("one ahead", x.instead(-1, 42), -1);
        Due.pattern(x, "ab");
        is("the 2nd", x.instead(1, 42), 2);
        is("of the longer one before", x.instead(2, 42), -1);
    }

    private static void noSuchByte() {
        DUE.about("22, NONE: no such byte");
        TurnedWords x = Due.with("ab abc b");
        Due.pattern(x, "?b");
        for (int sign = -300; sign < 0; sign++) {
            is("instead(0, " + sign + ")", x.instead(0, sign), -1);
        }
        TurnedWords y = Due.with("ab abc b");
        Due.pattern(y, "?b");
        for (int sign = 0; sign < 360; sign++) {
            boolean isLetter = sign >= 97 && sign <= 122;
            int due = sign == 97 || sign == 63 ? 1 : sign == 42 ? 2 : isLetter ? 0 : -1;
            is("instead(0, " + sign + ")", y.instead(0, sign), due);
        }
        is("instead(0, LOW)", y.instead(0, LOW), -1);
        is("instead(0, HIGH)", y.instead(0, HIGH), -1);
        is("neither", y.instead(2, 36), -1);
        is("the PATTERN stays", y.count(4), 1);
    }

    private static void image() {
        DUE.about("23, image k (0 .. 2) .. false for another k");
        TurnedWords x = full();
        int[] wrong = {-1, -2, 3, 4, LOW, HIGH};
        for (int k : wrong) {
            is("image(" + k + ")", x.image(k), false);
            is("again(" + k + ")", x.again(k), false);
        }
        isFull(x);
        TurnedWords y = new TurnedWords();
        for (int k = 0; k < 3; k++) {
            Due.words(y, Due.rows(k + 1));
            is("image(" + k + ")", y.image(k), true);
        }
        for (int k = 2; k >= 0; k--) {
            is("again(" + k + ")", y.again(k), true);
            is("each its own", y.count(0), k + 1);
        }
        TurnedWords z = full();
        is("image(0)", z.image(0), true);
        DUE.isText("it leaves all, what can be UNDONE, too", Due.seen(z), Due.seen(full()));
    }

    private static void noSuchImage() {
        DUE.about("24, false if there is none such");
        TurnedWords x = full();
        Due.words(x, "1");
        Due.tape(x, "tape");
        int[] wrong = {-1, -2, 0, 2, 3, 4, LOW, HIGH};
        for (int k : wrong) {
            is("again(" + k + ")", x.again(k), false);
        }
        is("count(14)", x.count(14), 4);
        fault(x, 1, 0);
        isFull(x);
    }

    private static void again() {
        DUE.about("24, all that is is as image k has it");
        TurnedWords x = Due.with("ab abc");
        Due.pattern(x, "*b*?");
        Due.comes(x, "q");
        Due.goes(x, "ab");
        Due.words(x, "a a");
        Due.tape(x, "tape");
        String seen = Due.seen(x);
        x.image(2);
        Due.words(x, "zz zy zx");
        Due.pattern(x, "z");
        merged(x, "z");
        is("again(2)", x.again(2), true);
        DUE.isText("all is as it was", Due.seen(x), seen);
        fault(x, 3, 2);
        is("count(14)", x.count(14), 4);
        is("the tape's bytes", x.edit(false), 3);
        DUE.isText("COMING", Due.all(x, true), "abc q tape");
        is("no MERGE can be UNDONE", x.undo(), -1);
        is("again(2) once more", x.again(2), true);
        is("count(2)", x.count(2), 2);
        TurnedWords y = new TurnedWords();
        y.image(0);
        Due.words(y, Due.rows(40));
        y.image(1);
        is("again(0)", y.again(0), true);
        is("no WORDS", y.count(0), 0);
        is("no TURNS", y.count(1), 0);
        is("again(1)", y.again(1), true);
        is("40 WORDS", y.count(0), 40);
        is("120 TURNS", y.count(1), 120);
    }
}
