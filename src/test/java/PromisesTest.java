/** Each promise of the document by its number: ordinary inputs, its edges, wrong inputs. */
public final class PromisesTest {
    private static final Due DUE = new Due("PromisesTest");
    private static final int LOW = Integer.MIN_VALUE;
    private static final int HIGH = Integer.MAX_VALUE;
    /** Forty words of one and two letters: a to z, aa to an. */
    private static final String FORTY = "a b c d e f g h i j k l m n o p q r s t u v w x y z "
            + "aa ab ac ad ae af ag ah ai aj ak al am an";

    private PromisesTest() {
    }

    public static void main(String[] args) {
        newObject();
        feed();
        end();
        words();
        wordFaults();
        pattern();
        patternFaults();
        fault();
        edit();
        editLimits();
        cancel();
        merge();
        undo();
        count();
        countOfRuns();
        stemAndAsk();
        word();
        answer();
        turn();
        fullIndex();
        run();
        longRun();
        of();
        shared();
        alone();
        near();
        tally();
        places();
        instead();
        image();
        again();
        DUE.finish();
    }

    private static void is(String call, long got, long due) {
        DUE.is(call, got, due);
    }

    private static void is(String call, boolean got, boolean due) {
        DUE.is(call, got, due);
    }

    private static void newObject() {
        TurnedWords x = new TurnedWords();
        is("NONE", TurnedWords.NONE, -1);
        int[] due = {0, 0, 0, 0, 0, 0, 1, 1, 0, 0, 0, 0, -1, 0, 0, 0, 0};
        for (int what = 0; what < due.length; what++) {
            is("1 count(" + what + ")", x.count(what), due[what]);
        }
        is("1 fault(0)", x.fault(0), 0);
        is("1 fault(1)", x.fault(1), -1);
        is("1 undo()", x.undo(), -1);
        for (int k = -1; k < 4; k++) {
            is("1 again(" + k + ")", x.again(k), false);
        }
        is("1 the PATTERN is *", x.instead(0, 42), 0);
        is("1 it has one sign", x.instead(1, 42), -1);
        is("1 run(0, 5)", x.run(0, 5), 36);
    }

    private static void feed() {
        TurnedWords x = new TurnedWords();
        for (int n = 20; n <= 400; n += 20) {
            is("2 feed", x.feed(0, 0, 0, 0, 0), n);
        }
        is("2 feed above 400", x.feed(0, 0, 0, 0, 0), -1);
        is("2 nothing came", x.count(14), 400);
        x.end(381);
        is("2 feed would come to 401", x.feed(0, 0, 0, 0, 0), -1);
        is("2 nothing came", x.count(14), 381);
        x.end(380);
        is("2 feed comes to 400", x.feed(0, 0, 0, 0, 0), 400);
        TurnedWords y = new TurnedWords();
        y.feed(0x61626364, 0x65666720, 0x68696a6b, 0x6c6d6e20, 0x6f707172);
        is("2 the highest byte first", y.words(), 3);
        DUE.isText("2 words", Due.all(y, false), "abcdefg hijklmn opqr");
        TurnedWords z = new TurnedWords();
        z.feed(0x61e16220, 0, 0, 0, 0);
        z.words();
        is("2 a byte above 127 is no letter", z.fault(0), 1);
        is("2 at", z.fault(1), 1);
    }

    private static void end() {
        TurnedWords x = new TurnedWords();
        is("3 end(0)", x.end(0), 0);
        is("3 end(1) of none", x.end(1), -1);
        x.feed(0, 0, 0, 0, 0);
        is("3 end(21)", x.end(21), -1);
        is("3 end(-1)", x.end(-1), -1);
        is("3 end(LOW)", x.end(LOW), -1);
        is("3 end(HIGH)", x.end(HIGH), -1);
        is("3 the tape stays", x.count(14), 20);
        is("3 end(20)", x.end(20), 20);
        is("3 end(7)", x.end(7), 7);
        is("3 count(14)", x.count(14), 7);
        is("3 end(8)", x.end(8), -1);
        is("3 feed comes behind", x.feed(0, 0, 0, 0, 0), 27);
        is("3 end(0)", x.end(0), 0);
        is("3 count(14)", x.count(14), 0);
    }

    private static void words() {
        TurnedWords x = new TurnedWords();
        Due.pattern(x, "a?*");
        is("4 words()", Due.words(x, "\n  bb a\n\nabc ab \n z"), 5);
        DUE.isText("4 the order", Due.all(x, false), "a ab abc bb z");
        is("4 the tape is empty", x.count(14), 0);
        is("4 the PATTERN stays", x.count(4), 2);
        Due.comes(x, "new");
        x.merge();
        Due.comes(x, "more");
        is("4 words() anew", Due.words(x, "abcdefg a"), 2);
        is("4 the BATCH is empty", x.count(2), 0);
        is("4 COMING is it", x.count(3), 2);
        is("4 no MERGE can be UNDONE", x.count(13), 0);
        is("4 undo()", x.undo(), -1);
        is("4 words() of blanks", Due.words(x, " \n "), 0);
        Due.words(x, "a b");
        is("4 words() of nothing", x.words(), 0);
        is("4 no WORDS", x.count(0), 0);
        is("4 forty", Due.words(x, FORTY), 40);
    }

    private static void wordFault(String text, int kind, int place) {
        TurnedWords x = Due.with("here stays");
        Due.comes(x, "new");
        x.merge();
        Due.comes(x, "more");
        is("4 words() of " + text, Due.words(x, text), -1);
        is("6 the FAULT of " + text, x.fault(0), kind);
        is("6 its place", x.fault(1), place);
        is("4 the tape is empty", x.count(14), 0);
        DUE.isText("4 WORDS stay", Due.all(x, false), "here new stays");
        DUE.isText("4 COMING stays", Due.all(x, true), "here more new stays");
        is("4 the BATCH stays", x.count(2), 1);
        is("4 what can be UNDONE stays", x.count(13), 1);
    }

    private static void wordFaults() {
        wordFault("ab1", 1, 2);
        wordFault("A", 1, 0);
        wordFault("ab\tc", 1, 2);
        wordFault("ab {", 1, 3);
        wordFault("ab `", 1, 3);
        wordFault("ab\rc", 1, 2);
        wordFault("ab " + (char) 0, 1, 3);
        wordFault("ab " + (char) 225, 1, 3);
        wordFault("abcdefgh", 2, 7);
        wordFault("a abcdefghijk", 2, 9);
        wordFault("abcdefg abcdefgh", 2, 15);
        wordFault("abcdefgh1", 2, 7);
        wordFault("ab ab", 3, 3);
        wordFault("ab c ab1", 3, 5);
        wordFault("ab c1ab", 1, 4);
        wordFault("ab*ab", 1, 2);
        wordFault(FORTY + " ao", 4, FORTY.length() + 1);
        wordFault(FORTY + "\na", 4, FORTY.length() + 1);
        wordFault(FORTY + " zz1", 4, FORTY.length() + 1);
        wordFault(FORTY + " 1", 1, FORTY.length() + 1);
        wordFault(FORTY + " abcdefgh", 2, FORTY.length() + 8);
        TurnedWords x = new TurnedWords();
        is("4 forty and blanks", Due.words(x, FORTY + "  \n"), 40);
    }

    private static void patternIs(String text, int pieces, String runs) {
        TurnedWords x = new TurnedWords();
        is("5 pattern() of " + text, Due.pattern(x, text), pieces);
        is("6 fault(0)", x.fault(0), 0);
        is("6 fault(1)", x.fault(1), -1);
        is("5 the tape is empty", x.count(14), 0);
        is("5 count(6)", x.count(6), pieces);
        DUE.isText("5 RUNS of " + text, Due.runs(x), runs);
    }

    private static void pattern() {
        patternIs("*", 1, "0$");
        patternIs("**", 1, "0$");
        patternIs("***", 1, "0$");
        patternIs("a", 1, "0a$");
        patternIs("?", 1, "0$");
        patternIs("ab?c", 1, "0ab 0c$");
        patternIs("a*", 1, "0$a");
        patternIs("*a", 1, "0a$");
        patternIs("a*b", 1, "0b$a");
        patternIs("ab*cd*ef", 2, "0ef$ab 1cd");
        patternIs("a*b**c*d", 3, "0d$a 1b 2c");
        patternIs("*?*", 2, "0$");
        patternIs("*?*a*", 3, "0$ 2a");
        patternIs("a?*?b", 1, "0b$a");
        patternIs("?a*b?", 1, "0b 0$ 0a");
        patternIs("*a?b??c*", 2, "0$ 1a 1b 1c");
        patternIs("a?a?a?a?a?a?", 1, "0a 0a 0a 0a 0a 0a 0$");
        patternIs("aaaaaaaaaaaa", 1, "0aaaaaaaaaaaa$");
        patternIs("************", 1, "0$");
        patternIs("*a*b*c*d*e*f", 6, "0f$ 1a 2b 3c 4d 5e");
    }

    private static void patternFault(String text, int kind, int place) {
        TurnedWords x = Due.with("ab ac bc");
        Due.pattern(x, "a?");
        is("5 pattern() of " + text, Due.pattern(x, text), -1);
        is("6 the FAULT of " + text, x.fault(0), kind);
        is("6 its place", x.fault(1), place);
        is("5 the tape is empty", x.count(14), 0);
        is("5 the PATTERN stays", x.count(4), 2);
        is("5 its RUNS stay", x.run(0, 5), 97);
    }

    private static void patternFaults() {
        patternFault("", 6, 0);
        patternFault(" ", 1, 0);
        patternFault("a ", 1, 1);
        patternFault("a$", 1, 1);
        patternFault("A", 1, 0);
        patternFault("a`", 1, 1);
        patternFault("a{", 1, 1);
        patternFault("abcdefghijkl ", 5, 12);
        patternFault("abcdefghijklm", 5, 12);
        patternFault("abcdefghijklmnopqrstuvwxyz", 5, 12);
        patternFault("abcdefghijk1lm", 1, 11);
        patternFault("*************", 5, 12);
    }

    private static void fault() {
        TurnedWords x = new TurnedWords();
        Due.words(x, "ab 1");
        is("6 fault(0)", x.fault(0), 1);
        is("6 fault(1)", x.fault(1), 3);
        is("6 fault(2)", x.fault(2), -1);
        is("6 fault(-1)", x.fault(-1), -1);
        is("6 fault(LOW)", x.fault(LOW), -1);
        is("6 fault(HIGH)", x.fault(HIGH), -1);
        Due.comes(x, "1");
        x.merge();
        is("6 edit leaves it", x.fault(0), 1);
        Due.pattern(x, "a");
        is("6 of the latest", x.fault(0), 0);
        is("6 no place", x.fault(1), -1);
        Due.pattern(x, "ab ");
        is("6 of the latest", x.fault(0), 1);
        is("6 its place", x.fault(1), 2);
        Due.words(x, "ab");
        is("6 of the latest", x.fault(0), 0);
    }

    private static void edit() {
        TurnedWords x = Due.with("ab abc b");
        is("7 comes", Due.comes(x, "cb"), 1);
        is("7 comes again", Due.comes(x, "cb"), -1);
        is("7 the tape is empty", x.count(14), 0);
        is("7 is there", Due.comes(x, "abc"), -1);
        is("7 goes", Due.goes(x, "abc"), 2);
        is("7 goes again", Due.goes(x, "abc"), -1);
        is("7 is not there", Due.goes(x, "zz"), -1);
        is("7 comes back", Due.comes(x, "abc"), 3);
        is("7 goes that came", Due.goes(x, "cb"), 4);
        DUE.isText("7 COMING", Due.all(x, true), "ab abc b");
        DUE.isText("7 WORDS", Due.all(x, false), "ab abc b");
        String[] wrong = {"", " ", "a b", " q", "q ", "q\n", "q1", "?", "*", "Q", "abcdefgh"};
        for (String text : wrong) {
            is("7 no WORD: " + text, Due.comes(x, text), -1);
            is("7 no WORD: " + text, Due.goes(x, text), -1);
            is("7 the tape is empty", x.count(14), 0);
        }
        is("7 the BATCH stays", x.count(2), 4);
        is("7 seven letters", Due.comes(x, "abcdefg"), 5);
        is("7 one letter", Due.comes(x, "z"), 6);
        is("7 is z, comes", Due.comes(x, "z"), -1);
        is("7 is abcdefg, goes", Due.goes(x, "abcdefg"), 7);
    }

    private static void editLimits() {
        TurnedWords x = Due.with("a");
        for (int i = 1; i <= 12; i++) {
            is("7 edit " + i, i % 2 == 1 ? Due.goes(x, "a") : Due.comes(x, "a"), i);
        }
        is("7 a 13th", Due.goes(x, "a"), -1);
        is("7 a 13th", Due.comes(x, "b"), -1);
        is("7 the tape is empty", x.count(14), 0);
        is("7 there are 12", x.count(2), 12);
        TurnedWords y = Due.with(FORTY);
        is("7 a 41st", Due.comes(y, "ao"), -1);
        is("7 the BATCH stays", y.count(2), 0);
        is("7 goes", Due.goes(y, "z"), 1);
        is("7 the 40th", Due.comes(y, "ao"), 2);
        is("7 a 41st", Due.comes(y, "ap"), -1);
        is("7 COMING", y.count(3), 40);
    }

    private static void cancel() {
        TurnedWords x = Due.with("a b");
        is("8 cancel() of none", x.cancel(), 0);
        Due.comes(x, "c");
        Due.goes(x, "a");
        is("8 cancel()", x.cancel(), 2);
        is("8 the BATCH", x.count(2), 0);
        DUE.isText("8 COMING", Due.all(x, true), "a b");
        is("8 cancel() again", x.cancel(), 0);
        is("8 c may come", Due.comes(x, "c"), 1);
    }

    private static void merge() {
        TurnedWords x = Due.with("ab abc b");
        is("9 merge() of none", x.merge(), 0);
        is("9 is no MERGE", x.count(13), 0);
        Due.comes(x, "cb");
        is("9 merge()", x.merge(), 6);
        DUE.isText("9 WORDS", Due.all(x, false), "ab abc b cb");
        is("9 the BATCH is empty", x.count(2), 0);
        is("9 COMING", x.count(3), 4);
        is("9 TURNS", x.count(1), 12);
        is("9 can be UNDONE", x.count(13), 1);
        Due.goes(x, "cb");
        is("9 all go back", x.merge(), 6);
        Due.goes(x, "b");
        Due.comes(x, "b");
        is("9 goes and comes: all stays", x.merge(), 0);
        is("9 that is a MERGE", x.count(13), 3);
        Due.comes(x, "zz");
        is("9 zz$, z$z behind all, $zz ahead of six", x.merge(), 6);
        Due.goes(x, "ab");
        Due.goes(x, "abc");
        Due.goes(x, "b");
        Due.goes(x, "zz");
        Due.comes(x, "c");
        is("9 no WORD stays", x.merge(), 0);
        is("9 of five the latest four", x.count(13), 4);
    }

    private static void undo() {
        TurnedWords x = Due.with("a");
        is("10 undo() of none", x.undo(), -1);
        Due.comes(x, "q");
        is("10 undo() of none", x.undo(), -1);
        is("10 the BATCH stays", x.count(2), 1);
        x.cancel();
        String[] come = {"b", "c", "d", "e", "f"};
        for (String word : come) {
            Due.comes(x, word);
            x.merge();
        }
        Due.comes(x, "q");
        is("10 undo()", x.undo(), 3);
        DUE.isText("10 WORDS", Due.all(x, false), "a b c d e");
        DUE.isText("10 COMING", Due.all(x, true), "a b c d e");
        is("10 the BATCH is empty", x.count(2), 0);
        is("10 TURNS", x.count(1), 10);
        is("10 undo()", x.undo(), 2);
        Due.comes(x, "z");
        x.merge();
        is("10 a MERGE more", x.count(13), 3);
        is("10 undo()", x.undo(), 2);
        is("10 undo()", x.undo(), 1);
        is("10 undo()", x.undo(), 0);
        DUE.isText("10 WORDS", Due.all(x, false), "a b");
        is("10 undo() of none", x.undo(), -1);
        Due.comes(x, "q");
        x.merge();
        Due.words(x, "a 1");
        is("10 words() with a FAULT leaves it", x.count(13), 1);
        Due.words(x, "a");
        is("10 words() leaves none", x.undo(), -1);
    }

    private static void counts(TurnedWords x, int... due) {
        for (int what = 0; what < due.length; what++) {
            is("11 count(" + what + ")", x.count(what), due[what]);
        }
    }

    private static void count() {
        TurnedWords x = Due.with("abe abd ac b cd ce");
        Due.pattern(x, "a*?");
        Due.comes(x, "ad");
        Due.goes(x, "abd");
        Due.comes(x, "ae");
        Due.tape(x, "xyz");
        counts(x, 6, 19, 3, 7, 3, 4, 1, 1, 0, 0, 3, 1, 2, 0, 3, 13, 1);
        is("11 count(17)", x.count(17), -1);
        is("11 count(-1)", x.count(-1), -1);
        is("11 count(LOW)", x.count(LOW), -1);
        is("11 count(HIGH)", x.count(HIGH), -1);
        x.merge();
        is("11 count(13)", x.count(13), 1);
        is("11 count(16)", x.count(16), 1);
        TurnedWords y = Due.with("a b c");
        is("11 count(16) of all", y.count(16), 3);
        TurnedWords z = Due.with("a ab");
        is("11 count(16) of none", z.count(16), 0);
    }

    private static void countOfRuns() {
        TurnedWords x = Due.with("abc abd bcd bd cd");
        Due.pattern(x, "*ab*cd*bc*");
        is("11 the first of the LONGEST", x.count(8), 1);
        is("11 the first of the NARROWEST", x.count(9), 1);
        Due.pattern(x, "*b*ab*c*");
        is("11 LONGEST", x.count(8), 2);
        is("11 NARROWEST", x.count(9), 2);
        Due.pattern(x, "*b*zz*zzz*");
        is("11 the first empty RANGE", x.count(9), 2);
        is("11 LONGEST", x.count(8), 3);
        Due.pattern(x, "c?d");
        is("11 LONGEST d$", x.count(8), 1);
        is("11 NARROWEST c", x.count(9), 0);
        is("11 SHARED cd, bcd", x.count(10), 2);
        is("11 no ANSWERS", x.count(4), 0);
    }

    private static void stemAndAsk() {
        TurnedWords x = Due.with("abcd abce abc abcfg");
        is("11 STEM", x.count(11), 3);
        is("11 ASK", x.count(12), 3);
        Due.pattern(x, "abcd");
        is("11 STEM of one", x.count(11), 4);
        is("11 ASK of one", x.count(12), 0);
        Due.pattern(x, "z*");
        is("11 STEM of none", x.count(11), 0);
        is("11 ASK of none", x.count(12), -1);
        TurnedWords y = Due.with("abcdefg abcdefh");
        is("11 STEM", y.count(11), 6);
        is("11 ASK the last", y.count(12), 6);
        TurnedWords z = Due.with("aa ab ba bb");
        is("11 ASK the least", z.count(12), 0);
        is("11 STEM", z.count(11), 0);
        Due.words(z, "aac aad bb bbb");
        is("11 ASK counts that there is none", z.count(12), 2);
        Due.words(z, "abcdefg");
        is("11 STEM of seven", z.count(11), 7);
    }

    private static void word() {
        TurnedWords x = Due.with("abcdefg b");
        Due.pattern(x, "?");
        Due.comes(x, "ax");
        is("12 letters", x.word(0, false, 0), 7);
        for (int i = 0; i < 7; i++) {
            is("12 letter " + i, x.word(0, false, 1 + i), 97 + i);
        }
        int[] wrong = {8, 9, 11, 12, HIGH, -1, LOW};
        for (int what : wrong) {
            is("12 word(0, false, " + what + ")", x.word(0, false, what), -1);
        }
        is("12 no 2nd letter", x.word(1, false, 2), -1);
        is("12 MEETS not", x.word(0, false, 10), 0);
        is("12 MEETS", x.word(1, false, 10), 1);
        is("12 COMING", x.word(1, true, 2), 120);
        is("12 COMING MEETS not", x.word(1, true, 10), 0);
        is("12 COMING MEETS", x.word(2, true, 10), 1);
        is("12 no such WORD", x.word(2, false, 0), -1);
        is("12 no such WORD", x.word(2, false, 10), -1);
        is("12 no such WORD of COMING", x.word(3, true, 0), -1);
        is("12 word(-1)", x.word(-1, false, 0), -1);
        is("12 word(LOW)", x.word(LOW, true, 0), -1);
        is("12 word(HIGH)", x.word(HIGH, false, 0), -1);
    }

    private static void answers(String pattern, String due) {
        TurnedWords x = Due.with("a ab abc abcdefg b ba bab bb zab");
        Due.pattern(x, pattern);
        StringBuilder got = new StringBuilder();
        for (int k = 0; x.answer(k, false) != -1 && k < 40; k++) {
            got.append(k == 0 ? "" : " ").append(Due.text(x, x.answer(k, false), false));
        }
        DUE.isText("13 ANSWERS of " + pattern, got.toString(), due);
        is("13 so many", x.answer(x.count(4), false), -1);
        is("13 answer(-1)", x.answer(-1, false), -1);
        is("13 answer(LOW)", x.answer(LOW, false), -1);
        is("13 answer(HIGH)", x.answer(HIGH, true), -1);
    }

    private static void answer() {
        answers("*", "a ab abc abcdefg b ba bab bb zab");
        answers("?", "a b");
        answers("??", "ab ba bb");
        answers("???????", "abcdefg");
        answers("????????", "");
        answers("ab", "ab");
        answers("ab*", "ab abc abcdefg");
        answers("*ab", "ab bab zab");
        answers("*b*", "ab abc abcdefg b ba bab bb zab");
        answers("*b*b*", "bab bb");
        answers("b*b", "bab bb");
        answers("a*?", "ab abc abcdefg");
        answers("?*?*?", "abc abcdefg bab zab");
        answers("*?b", "ab bab bb zab");
        answers("a*c*e*g", "abcdefg");
        answers("a*g*e", "");
        answers("abcdefg*****", "abcdefg");
        TurnedWords x = Due.with("b bb");
        Due.pattern(x, "?b");
        Due.comes(x, "ab");
        is("13 of COMING", x.answer(0, true), 0);
        is("13 of COMING", x.answer(1, true), 2);
        is("13 of COMING no more", x.answer(2, true), -1);
        is("13 of WORDS", x.answer(0, false), 1);
        is("13 no more", x.answer(1, false), -1);
    }

    private static void turn() {
        TurnedWords x = Due.with("ab b ba");
        String[] due = {"$ab02", "$b11", "$ba22", "a$b21", "ab$00", "b$10", "b$a01", "ba$20"};
        for (int turn = 0; turn < due.length; turn++) {
            String got = Due.turn(x, turn) + x.turn(turn, 0) + x.turn(turn, 1);
            DUE.isText("14 TURN " + turn, got, due[turn]);
        }
        is("14 no such TURN", x.turn(8, 0), -1);
        is("14 turn(-1)", x.turn(-1, 0), -1);
        is("14 turn(LOW)", x.turn(LOW, 1), -1);
        is("14 turn(HIGH)", x.turn(HIGH, 2), -1);
        is("14 what -1", x.turn(0, -1), -1);
        is("14 what LOW", x.turn(0, LOW), -1);
        is("14 what HIGH", x.turn(0, HIGH), -1);
        Due.words(x, "gfedcba");
        is("14 turn 0", x.turn(0, 1), 7);
        is("14 its last SIGN", x.turn(0, 9), 97);
        is("14 no more", x.turn(0, 10), -1);
        is("14 TURN a$gfedcb", x.turn(1, 1), 6);
    }

    /** Forty words of seven letters: all rooms are full. */
    private static void fullIndex() {
        StringBuilder text = new StringBuilder();
        for (int w = 0; w < 40; w++) {
            text.append("zzzzz").append((char) ('a' + w / 20)).append((char) ('a' + w % 20));
            text.append(' ');
        }
        TurnedWords x = new TurnedWords();
        is("14 forty of seven", Due.words(x, text.toString()), 40);
        is("14 TURNS", x.count(1), 320);
        is("14 letters", x.count(15), 280);
        is("14 the last TURN's WORD", x.turn(319, 0), 39);
        is("14 its k", x.turn(319, 1), 0);
        is("14 its last SIGN", x.turn(319, 9), 36);
        is("14 no 321st", x.turn(320, 0), -1);
        is("18 bt tells it", x.alone(39, 0), 2);
        is("18 the TURN bt$zzzzz", x.alone(39, 1), 5);
        is("19 the other one of t and 19 of b", x.near(39, -1), 20);
        Due.pattern(x, "*zzzz*z*");
        is("15 RANGE of zzzz", x.run(1, 3), 80);
        is("15 RANGE of z", x.run(2, 3), 200);
        is("15 its first TURN", x.run(2, 2), 120);
        is("16 its last WORD", x.of(2, 39), 39);
        is("17 shared(39)", x.shared(39), 39);
        Due.goes(x, "zzzzzaa");
        Due.comes(x, "a");
        is("9 of 312 TURNS", x.merge() > 0, true);
        is("9 TURNS", x.count(1), 314);
    }

    private static void runIs(TurnedWords x, int run, int... due) {
        for (int what = 0; what < due.length; what++) {
            is("15 run(" + run + ", " + what + ")", x.run(run, what), due[what]);
        }
    }

    private static void run() {
        TurnedWords x = Due.with("ab abab ba zz");
        // $ab $abab $ba $zz a$b ab$ ab$ab abab$ b$a b$aba ba$ bab$a z$z zz$
        Due.pattern(x, "a*ab*b?z");
        runIs(x, 0, 1, 0, 8, 4, 3, 98, -1);
        runIs(x, 1, 3, 0, -1, 0, 0, 122, 36, 97, -1);
        runIs(x, 2, 2, 1, 5, 3, 2, 97, 98, -1);
        is("15 no such RUN", x.run(3, 0), -1);
        is("15 run(-1, 0)", x.run(-1, 0), -1);
        is("15 run(LOW, 0)", x.run(LOW, 0), -1);
        is("15 run(HIGH, 0)", x.run(HIGH, 0), -1);
        is("15 what -1", x.run(0, -1), -1);
        is("15 what LOW", x.run(0, LOW), -1);
        is("15 what HIGH", x.run(0, HIGH), -1);
        Due.comes(x, "aa");
        is("15 of WORDS, not COMING", x.run(2, 3), 3);
        x.merge();
        is("15 the RANGE moves", x.run(2, 2), 8);
        Due.pattern(x, "*z*");
        is("15 the last TURNS", x.run(1, 2), 15);
        is("15 how many", x.run(1, 3), 2);
        is("15 WORDS", x.run(1, 4), 1);
    }

    private static void longRun() {
        TurnedWords x = Due.with("abcdefg bcdefga");
        Due.pattern(x, "abcdefg");
        runIs(x, 0, 8, 0, 3, 1, 1, 97);
        Due.pattern(x, "*abcdefg");
        runIs(x, 0, 8, 0, 3, 1, 1, 97);
        Due.pattern(x, "*abcdefgh*");
        runIs(x, 1, 8, 1, -1, 0, 0, 97);
        Due.pattern(x, "abcdefga");
        runIs(x, 0, 9, 0, -1, 0, 0, 97);
        Due.pattern(x, "efg*abcd");
        runIs(x, 0, 8, 0, -1, 0, 0, 97);
        Due.pattern(x, "abcdefgabcde");
        runIs(x, 0, 13, 0, -1, 0, 0, 97);
        is("15 its last SIGN", x.run(0, 17), 36);
        is("15 no more", x.run(0, 18), -1);
        Due.pattern(x, "a*bcdefg");
        runIs(x, 0, 8, 0, 4, 1, 1, 98);
    }

    private static void of() {
        TurnedWords x = Due.with("ab abab ba zz");
        Due.pattern(x, "a*ab*b?z");
        is("16 of(0, 0)", x.of(0, 0), 0);
        is("16 of(0, 1)", x.of(0, 1), 1);
        is("16 of(0, 2)", x.of(0, 2), 2);
        is("16 of(0, 3)", x.of(0, 3), -1);
        is("16 of(1, 0)", x.of(1, 0), -1);
        is("16 of(2, 1)", x.of(2, 1), 1);
        is("16 of(2, 2)", x.of(2, 2), -1);
        is("16 of(3, 0)", x.of(3, 0), -1);
        is("16 of(-1, 0)", x.of(-1, 0), -1);
        is("16 of(0, -1)", x.of(0, -1), -1);
        is("16 of(LOW, LOW)", x.of(LOW, LOW), -1);
        is("16 of(HIGH, HIGH)", x.of(HIGH, HIGH), -1);
    }

    private static void shared() {
        TurnedWords x = Due.with("ab abc ba bca c");
        Due.pattern(x, "*a*b*");
        is("17 count(10)", x.count(10), 4);
        is("17 shared(0)", x.shared(0), 0);
        is("17 shared(3)", x.shared(3), 3);
        is("17 shared(4)", x.shared(4), -1);
        is("17 shared(-1)", x.shared(-1), -1);
        is("17 shared(LOW)", x.shared(LOW), -1);
        is("17 shared(HIGH)", x.shared(HIGH), -1);
        Due.pattern(x, "*c*bc*");
        is("17 shared(0)", x.shared(0), 1);
        is("17 shared(1)", x.shared(1), 3);
        is("17 shared(2)", x.shared(2), -1);
    }

    private static void aloneIs(TurnedWords x, int word, int signs, int k, int number) {
        is("18 alone(" + word + ", 0)", x.alone(word, 0), signs);
        is("18 alone(" + word + ", 1)", x.alone(word, 1), k);
        is("18 alone(" + word + ", 2)", x.alone(word, 2), number);
    }

    private static void alone() {
        TurnedWords x = Due.with("ab abc b");
        aloneIs(x, 0, 3, 0, 3);
        aloneIs(x, 1, 1, 2, 8);
        aloneIs(x, 2, 2, 1, 2);
        is("18 alone(3, 0)", x.alone(3, 0), -1);
        is("18 alone(-1, 0)", x.alone(-1, 0), -1);
        is("18 alone(LOW, 0)", x.alone(LOW, 0), -1);
        is("18 alone(HIGH, 0)", x.alone(HIGH, 0), -1);
        is("18 alone(0, 3)", x.alone(0, 3), -1);
        is("18 alone(0, -1)", x.alone(0, -1), -1);
        Due.words(x, "a ab ba");
        aloneIs(x, 0, -2, -2, -2);
        is("18 another what ahead of it", x.alone(0, 3), -1);
        aloneFirstByNumber();
    }

    /** Of several TURNS that of the least k, wherever in the INDEX it is. */
    private static void aloneFirstByNumber() {
        TurnedWords x = Due.with("j");
        // $j j$
        aloneIs(x, 0, 1, 0, 1);
        Due.words(x, "ba");
        // $ba a$b ba$
        aloneIs(x, 0, 1, 0, 2);
        Due.words(x, "aaa b");
        // $aaa $b a$aa aa$a aaa$ b$
        aloneIs(x, 0, 1, 0, 4);
        aloneIs(x, 1, 1, 0, 5);
        Due.words(x, "gfedcba");
        aloneIs(x, 0, 1, 0, 7);
        Due.words(x, "xba xz");
        // $xba $xz a$xb ba$x xba$ xz$ z$x: k 0 needs two SIGNS, k 1 and 2 one
        aloneIs(x, 0, 1, 1, 3);
        aloneIs(x, 1, 1, 1, 6);
        Due.words(x, "cab dab");
        // $cab $dab ab$c ab$d b$ca b$da cab$ dab$
        aloneIs(x, 0, 1, 0, 6);
        Due.comes(x, "ca");
        x.merge();
        // $ca $cab $dab a$c ab$c ab$d b$ca b$da ca$ cab$ dab$: ca by a$, cab by itself
        aloneIs(x, 0, 2, 1, 3);
        aloneIs(x, 1, 3, 0, 9);
        x.undo();
        aloneIs(x, 1, 1, 0, 7);
    }

    private static void near() {
        TurnedWords x = Due.with("ab abc ac b bb cb cc");
        is("19 how many of ab", x.near(0, -1), 3);
        is("19 near(0, 0)", x.near(0, 0), 2);
        is("19 near(0, 1)", x.near(0, 1), 4);
        is("19 near(0, 2)", x.near(0, 2), 5);
        is("19 near(0, 3)", x.near(0, 3), -2);
        is("19 how many of abc", x.near(1, -1), 0);
        is("19 how many of b", x.near(3, -1), 0);
        is("19 near(1, 0)", x.near(1, 0), -2);
        is("19 near(0, -2)", x.near(0, -2), -2);
        is("19 near(0, LOW)", x.near(0, LOW), -2);
        is("19 near(0, HIGH)", x.near(0, HIGH), -2);
        is("19 near(7, -1)", x.near(7, -1), -2);
        is("19 near(7, 0)", x.near(7, 0), -2);
        is("19 near(-1, -1)", x.near(-1, -1), -2);
        is("19 near(LOW, 0)", x.near(LOW, 0), -2);
        Due.words(x, "abcdefg abcdefz zbcdefz");
        is("19 the last letter", x.near(0, -1), 1);
        is("19 two of the middle", x.near(1, -1), 2);
    }

    private static void tally() {
        TurnedWords x = Due.with("a abcdefg b bb zab");
        is("20 one letter", x.tally(1, false), 2);
        is("20 two", x.tally(2, false), 1);
        is("20 three", x.tally(3, false), 1);
        is("20 four", x.tally(4, false), 0);
        is("20 seven", x.tally(7, false), 1);
        is("20 a", x.tally(97, true), 3);
        is("20 b, once a WORD", x.tally(98, true), 4);
        is("20 z", x.tally(122, true), 1);
        is("20 y", x.tally(121, true), 0);
        int[] wrong = {0, 8, -1, 97, LOW, HIGH};
        for (int n : wrong) {
            is("20 tally(" + n + ", false)", x.tally(n, false), -1);
        }
        int[] wrongTurned = {96, 123, 1, 7, 0, 36, 65, -1, 97 + 256, LOW, HIGH};
        for (int n : wrongTurned) {
            is("20 tally(" + n + ", true)", x.tally(n, true), -1);
        }
    }

    private static void places() {
        TurnedWords x = Due.with("abacada z");
        is("21 a", x.places(0, 97), 85);
        is("21 b", x.places(0, 98), 2);
        is("21 e", x.places(0, 101), 0);
        is("21 z", x.places(1, 122), 1);
        is("21 no such WORD", x.places(2, 97), -1);
        is("21 places(-1, 97)", x.places(-1, 97), -1);
        is("21 places(LOW, 97)", x.places(LOW, 97), -1);
        is("21 places(HIGH, 97)", x.places(HIGH, 97), -1);
        int[] wrong = {96, 123, 36, 0, -1, 95, 97 + 32, 97 - 32, 97 + 256, LOW, HIGH};
        for (int letter : wrong) {
            is("21 places(0, " + letter + ")", x.places(0, letter), -1);
        }
    }

    private static void instead() {
        TurnedWords x = Due.with("ab abc b bb bbb");
        Due.pattern(x, "ab");
        is("22 the one that it is", x.instead(0, 97), 1);
        is("22 ?", x.instead(0, 63), 2);
        is("22 *", x.instead(0, 42), 4);
        is("22 b", x.instead(0, 98), 1);
        is("22 * behind", x.instead(1, 42), 2);
        is("22 z", x.instead(1, 122), 0);
        is("22 the PATTERN stays", x.count(4), 1);
        is("22 its RUNS stay", x.run(0, 0), 3);
        is("22 no such sign", x.instead(2, 97), -1);
        is("22 instead(-1, 97)", x.instead(-1, 97), -1);
        is("22 instead(LOW, 97)", x.instead(LOW, 97), -1);
        is("22 instead(HIGH, 97)", x.instead(HIGH, 97), -1);
        int[] wrong = {36, 32, 10, 96, 123, 65, 0, -1, 97 + 256, 42 - 256, LOW, HIGH};
        for (int sign : wrong) {
            is("22 instead(0, " + sign + ")", x.instead(0, sign), -1);
        }
        Due.comes(x, "zb");
        is("22 of WORDS, not COMING", x.instead(0, 63), 2);
    }

    private static void image() {
        TurnedWords x = new TurnedWords();
        for (int k = 0; k < 3; k++) {
            is("23 image(" + k + ")", x.image(k), true);
        }
        int[] wrong = {-1, 3, LOW, HIGH};
        for (int k : wrong) {
            is("23 image(" + k + ")", x.image(k), false);
            is("24 again(" + k + ")", x.again(k), false);
        }
        Due.words(x, "a b");
        x.image(1);
        Due.words(x, "c");
        x.image(2);
        is("23 each its own", x.again(1), true);
        is("24 WORDS", x.count(0), 2);
        x.again(2);
        is("24 WORDS", x.count(0), 1);
        x.again(0);
        is("24 WORDS", x.count(0), 0);
        x.again(1);
        x.image(0);
        Due.words(x, "a b c");
        x.again(0);
        is("23 anew", x.count(0), 2);
        Due.comes(x, "q");
        x.merge();
        x.image(0);
        is("23 leaves what can be UNDONE", x.undo(), 0);
    }

    private static void again() {
        TurnedWords x = Due.with("ab abc b");
        Due.pattern(x, "*b*?");
        Due.comes(x, "q");
        Due.goes(x, "ab");
        Due.words(x, "a 1");
        Due.tape(x, "tape");
        x.image(1);
        x.cancel();
        Due.comes(x, "zz");
        x.merge();
        Due.pattern(x, "a");
        x.feed(0, 0, 0, 0, 0);
        is("24 again(0)", x.again(0), false);
        is("24 all stays", x.count(13), 1);
        is("24 again(1)", x.again(1), true);
        is("24 nothing can be UNDONE", x.count(13), 0);
        is("24 undo()", x.undo(), -1);
        DUE.isText("24 WORDS", Due.all(x, false), "ab abc b");
        DUE.isText("24 COMING", Due.all(x, true), "abc b q");
        counts(x, 3, 9, 2, 3, 1, 1, 2, 2, 0, 0, 3, 3, 0, 0, 4, 6, 1);
        is("24 the FAULT", x.fault(0), 1);
        is("24 its place", x.fault(1), 2);
        is("24 TURNS", x.turn(8, 1), 2);
        is("24 the tape's bytes", x.edit(false), 3);
        DUE.isText("24 COMING", Due.all(x, true), "abc b q tape");
        is("24 edits go on", Due.goes(x, "tape"), 4);
        is("24 edits go on", Due.goes(x, "q"), 5);
        is("24 merge()", x.merge(), 2 + 4);
        is("24 the image stays", x.again(1), true);
        DUE.isText("24 COMING", Due.all(x, true), "abc b q");
    }
}
