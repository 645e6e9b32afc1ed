/** The boundary cases that the Terms of the document name, a test of its own for each sentence. */
public final class TermEdgesTest {
    private static final Due DUE = new Due("TermEdgesTest");

    private TermEdgesTest() {
    }

    public static void main(String[] args) {
        lettersOfRows();
        mostWords();
        shorterAhead();
        numbersOfTurns();
        mostTurns();
        shorterTurnAhead();
        firstPattern();
        signsOfPattern();
        anyNumberOfLetters();
        oneLetter();
        withoutStar();
        emptyPieces();
        longest();
        narrowest();
        mostEdits();
        mostComing();
        comingOfNoWords();
        comingWithoutWords();
        mostBytes();
        blanks();
        wrongByte();
        eighthLetter();
        rowThatWasThere();
        fortyFirstWord();
        aheadOfThree();
        firstByPlace();
        wrongSign();
        thirteenthByte();
        emptyPattern();
        firstByPlaceInPattern();
        aloneFirstByNumber();
        fewestSigns();
        nearByOne();
        leastPlace();
        latestFour();
        emptyMerge();
        undoneBatch();
        leaveNone();
        DUE.finish();
    }

    private static void is(String call, long got, long due) {
        DUE.is(call, got, due);
    }

    private static void fault(TurnedWords x, int kind, int place) {
        is("fault(0)", x.fault(0), kind);
        is("fault(1)", x.fault(1), place);
    }

    /** The text has so many words and no fault. */
    private static void text(String text, int many) {
        TurnedWords x = new TurnedWords();
        is("words() of " + text, Due.words(x, text), many);
        is("count(0)", x.count(0), many);
        fault(x, 0, -1);
    }

    private static void textFault(String text, int kind, int place) {
        TurnedWords x = new TurnedWords();
        is("words() of " + text, Due.words(x, text), -1);
        fault(x, kind, place);
    }

    /** The pattern has such runs, each behind the number of its piece, and no fault. */
    private static void pattern(String pattern, int pieces, String runs) {
        TurnedWords x = new TurnedWords();
        is("pattern() of " + pattern, Due.pattern(x, pattern), pieces);
        is("count(6)", x.count(6), pieces);
        DUE.isText("RUNS of " + pattern, Due.runs(x), runs);
        fault(x, 0, -1);
    }

    private static void patternFault(String pattern, int kind, int place) {
        TurnedWords x = new TurnedWords();
        is("pattern() of " + pattern, Due.pattern(x, pattern), -1);
        fault(x, kind, place);
    }

    private static void meets(String word, String pattern, int due) {
        TurnedWords x = Due.with(word);
        Due.pattern(x, pattern);
        is(word + " MEETS " + pattern, x.word(0, false, 10), due);
        is("ANSWERS of " + pattern, x.count(4), due);
    }

    private static void merged(TurnedWords x, String word) {
        Due.comes(x, word);
        x.merge();
    }

    // ---- Terms 1

    private static void lettersOfRows() {
        DUE.about("Terms 1, rows of 1 to 7 letters");
        text("", 0);
        text("a", 1);
        text("z", 1);
        text("azazaz", 1);
        text("azazaza", 1);
        textFault("azazazaz", 2, 7);
        TurnedWords x = new TurnedWords();
        is("edit of no letter", Due.comes(x, ""), -1);
        is("edit of 1", Due.comes(x, "a"), 1);
        is("edit of 7", Due.comes(x, "azazaza"), 2);
        is("edit of 8", Due.comes(x, "azazazaz"), -1);
        is("letters of the 2nd", x.word(1, true, 0), 7);
        textFault("`", 1, 0);
        textFault("{", 1, 0);
    }

    private static void mostWords() {
        DUE.about("Terms 1, the DICTIONARY has 40 at most");
        text(Due.rows(39), 39);
        text(Due.rows(40), 40);
        textFault(Due.rows(41), 4, 120);
        TurnedWords x = Due.with(Due.rows(40));
        DUE.isText("the last one", Due.text(x, 39, false), "bn");
        is("a 41st", x.word(40, false, 0), -1);
        Due.comes(x, "zz");
        x.merge();
        is("by edit() and merge()", x.count(0), 40);
        TurnedWords y = Due.with(Due.rows(39));
        merged(y, "zz");
        is("the 40th by edit() and merge()", y.count(0), 40);
    }

    private static void shorterAhead() {
        DUE.about("Terms 1, the shorter one ahead, if it begins the other one");
        TurnedWords x = Due.with("b abcdefg abcdef abc ab aab aa a");
        DUE.isText("WORDS", Due.all(x, false), "a aa aab ab abc abcdef abcdefg b");
        TurnedWords y = Due.with("a ab abc");
        DUE.isText("WORDS", Due.all(y, false), "a ab abc");
        TurnedWords z = Due.with("zz azz ab");
        Due.comes(z, "z");
        Due.comes(z, "a");
        Due.comes(z, "abb");
        DUE.isText("COMING", Due.all(z, true), "a ab abb azz z zz");
    }

    /** The signs of each TURN number k of a dictionary's only word. */
    private static void turnsOf(String word) {
        TurnedWords x = Due.with(word);
        int n = word.length();
        is("TURNS of " + word, x.count(1), n + 1);
        boolean[] had = new boolean[n + 1];
        for (int turn = 0; turn <= n; turn++) {
            int k = x.turn(turn, 1);
            is("k " + k + " is 0 to n, and new", k >= 0 && k <= n && !had[k] ? 1 : 0, 1);
            if (k >= 0 && k <= n) {
                had[k] = true;
                DUE.isText("TURN k " + k, Due.turn(x, turn), word.substring(k) + "$"
                        + word.substring(0, k));
            }
        }
        is("a TURN more", x.turn(n + 1, 1), -1);
    }

    private static void numbersOfTurns() {
        DUE.about("Terms 1, number k, 0 to n");
        turnsOf("a");
        turnsOf("ab");
        turnsOf("aaaaaa");
        turnsOf("abcdefg");
        turnsOf("zzzzzzz");
    }

    private static void mostTurns() {
        DUE.about("Terms 1, all TURNS of all WORDS, of 40 of 7 letters");
        StringBuilder text = new StringBuilder();
        for (int i = 0; i < 40; i++) {
            text.append("zzzzz").append(Due.row(i)).append(' ');
        }
        TurnedWords x = Due.with(text.toString());
        is("count(0)", x.count(0), 40);
        is("count(1)", x.count(1), 320);
        is("count(15)", x.count(15), 280);
        DUE.isText("the first TURN", Due.turn(x, 0), "$zzzzzaa");
        DUE.isText("the last TURN", Due.turn(x, 319), "zzzzzbn$");
        is("its WORD", x.turn(319, 0), 39);
        is("one more", x.turn(320, 0), -1);
        TurnedWords y = new TurnedWords();
        is("count(1) of no WORDS", y.count(1), 0);
        is("count(15) of no WORDS", y.count(15), 0);
        Due.words(y, "z");
        is("count(1) of one letter", y.count(1), 2);
        is("count(15) of one letter", y.count(15), 1);
    }

    private static void shorterTurnAhead() {
        DUE.about("Terms 1, a TURN that begins another one ahead of it");
        TurnedWords x = Due.with("a ab ba");
        String[] due = {"$a", "$ab", "$ba", "a$", "a$b", "ab$", "b$a", "ba$"};
        for (int turn = 0; turn < due.length; turn++) {
            DUE.isText("TURN " + turn, Due.turn(x, turn), due[turn]);
        }
    }

    private static void firstPattern() {
        DUE.about("Terms 1, the PATTERN (at first * alone)");
        TurnedWords x = Due.with("a aa aaa aaaa aaaaa aaaaaa aaaaaaa");
        is("ANSWERS", x.count(4), 7);
        is("PIECES", x.count(6), 1);
        DUE.isText("RUNS", Due.runs(x), "0$");
        is("* is its sign", x.instead(0, 42), 7);
        is("in ?'s place", x.instead(0, 63), 1);
        is("it has no other sign", x.instead(1, 42), -1);
    }

    private static void signsOfPattern() {
        DUE.about("Terms 1, the PATTERN: 1 to 12");
        patternFault("", 6, 0);
        pattern("a", 1, "0a$");
        pattern("?", 1, "0$");
        pattern("*", 1, "0$");
        pattern("abcdefghijk", 1, "0abcdefghijk$");
        pattern("abcdefghijkl", 1, "0abcdefghijkl$");
        pattern("????????????", 1, "0$");
        pattern("************", 1, "0$");
        patternFault("abcdefghijklm", 5, 12);
        patternFault("?????????????", 5, 12);
        patternFault("*************", 5, 12);
        TurnedWords x = Due.with("abc");
        Due.pattern(x, "abc*********");
        is("the 12th sign", x.instead(11, 63), 0);
        is("a 13th", x.instead(12, 63), -1);
    }

    private static void anyNumberOfLetters() {
        DUE.about("Terms 1, * (any number of letters, none, too)");
        String seven = "abcdefg";
        for (int n = 1; n <= 7; n++) {
            String word = seven.substring(0, n);
            meets(word, "*", 1);
            meets(word, "************", 1);
            meets(word, "a*", 1);
            meets(word, "*" + word, 1);
            meets(word, word + "*", 1);
            meets(word, "a*" + word.substring(1), 1);
            meets(word, "*?", 1);
            meets(word, "?*?", n > 1 ? 1 : 0);
            meets(word, "*" + word + "*" + "a", 0);
        }
        meets("ab", "a**b", 1);
        meets("ab", "*a*b*", 1);
        meets(seven, "a*g", 1);
        meets(seven, "a*h", 0);
        meets(seven, "*******a****", 1);
        meets(seven, "???????*", 1);
        meets(seven, "????????*", 0);
    }

    private static void oneLetter() {
        DUE.about("Terms 1, ? (one letter)");
        meets("a", "?", 1);
        meets("z", "?", 1);
        meets("ab", "?", 0);
        meets("a", "a?", 0);
        meets("ab", "a?", 1);
        meets("abc", "a?", 0);
        meets("abcdefg", "??????", 0);
        meets("abcdefg", "???????", 1);
        meets("abcdefg", "????????", 0);
    }

    private static void withoutStar() {
        DUE.about("Terms 1, PIECES without a *: all of it and the MARK behind");
        pattern("a", 1, "0a$");
        pattern("ab", 1, "0ab$");
        pattern("?", 1, "0$");
        pattern("??", 1, "0$");
        pattern("a?", 1, "0a 0$");
        pattern("?a", 1, "0a$");
        pattern("a?b?c?d?e?f?", 1, "0a 0b 0c 0d 0e 0f 0$");
        pattern("a?b?c?d?e?fg", 1, "0a 0b 0c 0d 0e 0fg$");
        // one * more: the MARK is behind what ends the WORD, ahead of what begins it
        pattern("ab*", 1, "0$ab");
        pattern("*ab", 1, "0ab$");
        pattern("a*b", 1, "0b$a");
    }

    private static void emptyPieces() {
        DUE.about("Terms 1, empty ones left out");
        pattern("*", 1, "0$");
        pattern("**", 1, "0$");
        pattern("a**b", 1, "0b$a");
        pattern("a*c*b", 2, "0b$a 1c");
        pattern("a**c*b", 2, "0b$a 1c");
        pattern("a*c**b", 2, "0b$a 1c");
        pattern("**c**", 2, "0$ 1c");
        pattern("*c**d*", 3, "0$ 1c 2d");
        pattern("**c***d*****", 3, "0$ 1c 2d");
        // one of ? alone is not empty, though it has no RUN
        pattern("*?*", 2, "0$");
        pattern("*?**c*", 3, "0$ 2c");
        pattern("*a*b*c*d*e*f", 6, "0f$ 1a 2b 3c 4d 5e");
    }

    private static void longestIs(String pattern, int due) {
        TurnedWords x = Due.with("ab abc");
        Due.pattern(x, pattern);
        is("count(8) of " + pattern, x.count(8), due);
    }

    private static void longest() {
        DUE.about("Terms 1, LONGEST, of several the first");
        longestIs("*", 0);
        longestIs("*a*", 0);
        longestIs("*ab*", 1);
        longestIs("*ab*cd*", 1);
        longestIs("*ab*cde*", 2);
        longestIs("*abc*de*", 1);
        longestIs("*a?bc*de*fg*", 2);
        longestIs("a?b?c", 2);
        longestIs("ab?c", 0);
        longestIs("ab?cd", 1);
        longestIs("*z?y?x?w?v*u", 0);
        longestIs("?*a?b?c?d?ef", 4);
        longestIs("*abcdefghij*", 1);
    }

    private static void narrowestIs(String words, String pattern, int due) {
        TurnedWords x = Due.with(words);
        Due.pattern(x, pattern);
        is("count(9) of " + pattern, x.count(9), due);
    }

    private static void narrowest() {
        DUE.about("Terms 1, NARROWEST, of several the first");
        // $ab $ac ab$ ac$ b$a c$a
        narrowestIs("ab ac", "*", 0);
        narrowestIs("ab ac", "*a*", 0);
        narrowestIs("ab ac", "*a*b*", 2);
        narrowestIs("ab ac", "*b*c*", 1);
        narrowestIs("ab ac", "*c*b*", 1);
        narrowestIs("ab ac", "*c*ab*", 1);
        narrowestIs("ab ac", "*a*b*zz*zy*", 3);
        narrowestIs("ab ac", "*b*bb*cc*", 2);
        narrowestIs("ab ac", "z*b*", 0);
        narrowestIs("", "*", 0);
        narrowestIs("", "*a*b*", 0);
        narrowestIs("", "a?b", 0);
    }

    // ---- Terms 2

    private static void mostEdits() {
        DUE.about("Terms 2, edits, 12 at most");
        TurnedWords x = Due.with("z");
        for (int i = 0; i < 12; i++) {
            is("edit " + (i + 1), Due.comes(x, Due.row(i)), i + 1);
        }
        is("a 13th that comes", Due.comes(x, "y"), -1);
        is("a 13th that goes", Due.goes(x, "z"), -1);
        is("count(2)", x.count(2), 12);
        is("count(3)", x.count(3), 13);
        x.merge();
        is("the first of the next BATCH", Due.comes(x, "y"), 1);
        for (int i = 1; i < 12; i++) {
            is("edit " + (i + 1), Due.goes(x, Due.row(i)), i + 1);
        }
        is("a 13th", Due.goes(x, "aa"), -1);
        x.cancel();
        is("the first of the next BATCH", Due.goes(x, "aa"), 1);
    }

    private static void mostComing() {
        DUE.about("Terms 2, COMING has 40 WORDS at most, too");
        TurnedWords x = Due.with(Due.rows(38));
        is("the 39th", Due.comes(x, "za"), 1);
        is("the 40th", Due.comes(x, "zb"), 2);
        is("count(3)", x.count(3), 40);
        is("a 41st", Due.comes(x, "zc"), -1);
        is("count(3)", x.count(3), 40);
        is("one goes", Due.goes(x, "aa"), 3);
        is("count(3)", x.count(3), 39);
        is("the 40th, with the BATCH so far", Due.comes(x, "zc"), 4);
        is("a 41st", Due.comes(x, "aa"), -1);
        is("count(0)", x.count(0), 38);
        x.merge();
        is("count(0)", x.count(0), 40);
        is("a 41st of the DICTIONARY", Due.comes(x, "zd"), -1);
        is("count(2)", x.count(2), 0);
    }

    /** The numbers of what the DICTIONARY has, whatever comes. */
    private static void ofWords(TurnedWords x, int... due) {
        int[] got = {x.count(0), x.count(1), x.count(4), x.count(10), x.count(11), x.count(12),
            x.count(15), x.count(16), x.answer(0, false), x.run(0, 3), x.tally(2, false),
            x.tally(97, true), x.near(0, -1), x.alone(0, 0), x.places(0, 97), x.instead(0, 42)};
        is("all were asked", got.length, due.length);
        for (int i = 0; i < got.length && i < due.length; i++) {
            is("number " + i + " of the DICTIONARY", got[i], due[i]);
        }
    }

    private static void comingOfNoWords() {
        DUE.about("Terms 2, COMING is the DICTIONARY as it would be, from no WORDS");
        TurnedWords x = new TurnedWords();
        Due.comes(x, "ab");
        Due.comes(x, "ac");
        ofWords(x, 0, 0, 0, 0, 0, -1, 0, 0, -1, 0, 0, 0, -2, -1, -1, 0);
        DUE.isText("COMING", Due.all(x, true), "ab ac");
        is("count(5)", x.count(5), 2);
        is("answer(1, true)", x.answer(1, true), 1);
        x.merge();
        ofWords(x, 2, 6, 2, 2, 1, 1, 4, 0, 0, 2, 2, 2, 1, 1, 1, 2);
    }

    private static void comingWithoutWords() {
        DUE.about("Terms 2, COMING is the DICTIONARY as it would be, to no WORDS");
        TurnedWords x = Due.with("ab ac");
        Due.goes(x, "ab");
        Due.goes(x, "ac");
        ofWords(x, 2, 6, 2, 2, 1, 1, 4, 0, 0, 2, 2, 2, 1, 1, 1, 2);
        is("count(3)", x.count(3), 0);
        is("count(5)", x.count(5), 0);
        is("answer(0, true)", x.answer(0, true), -1);
        is("word(0, true, 0)", x.word(0, true, 0), -1);
        is("one more that goes", Due.goes(x, "ab"), -1);
        x.merge();
        ofWords(x, 0, 0, 0, 0, 0, -1, 0, 0, -1, 0, 0, 0, -2, -1, -1, 0);
    }

    /** 400 bytes: 39 rows of seven letters, blanks, and this at the end. */
    private static String fullTape(String last) {
        StringBuilder text = new StringBuilder();
        for (int i = 0; i < 39; i++) {
            text.append("aaaaa").append(Due.row(i)).append('\n');
        }
        return text.append(" ".repeat(400 - text.length() - last.length())).append(last).toString();
    }

    private static void mostBytes() {
        DUE.about("Terms 2, THE TAPE has at most 400 bytes");
        TurnedWords x = new TurnedWords();
        Due.tape(x, fullTape("zzzzzzz"));
        is("count(14)", x.count(14), 400);
        is("feed", x.feed(0, 0, 0, 0, 0), -1);
        is("end(401)", x.end(401), -1);
        is("end(400)", x.end(400), 400);
        is("words()", x.words(), 40);
        DUE.isText("the last one", Due.text(x, 39, false), "zzzzzzz");
        textFault(fullTape("1"), 1, 399);
        textFault(fullTape("zzzzzzzz"), 2, 399);
        textFault(fullTape("aaaaaaa"), 3, 393);
        textFault(fullTape("a b"), 4, 399);
        text(" ".repeat(400), 0);
        textFault("a".repeat(400), 2, 7);
        patternFault("a".repeat(400), 5, 12);
    }

    private static void blanks() {
        DUE.about("Terms 2, blanks (10, 32) between, ahead, behind as one likes");
        text("", 0);
        text(" ", 0);
        text("\n", 0);
        text(" \n \n\n", 0);
        text("a b", 2);
        text("a\nb", 2);
        text("a \n  b", 2);
        text(" a", 1);
        text("\n\na", 1);
        text("a ", 1);
        text("a\n\n \n", 1);
    }

    private static void wrongByte() {
        DUE.about("Terms 2, FAULT 1 a byte that is no letter, no blank (at it)");
        for (int sign = 0; sign < 256; sign++) {
            boolean isLetter = sign >= 'a' && sign <= 'z';
            boolean isBlank = sign == 10 || sign == 32;
            String one = "" + (char) sign;
            if (isLetter || isBlank) {
                text(one, isLetter ? 1 : 0);
            } else {
                textFault(one, 1, 0);
                textFault("zz" + one, 1, 2);
                textFault("zz\n" + one + "zz", 1, 3);
            }
        }
    }

    private static void eighthLetter() {
        DUE.about("Terms 2, FAULT 2 a letter behind the 7th of a row (at the 8th)");
        text("abcdefg", 1);
        textFault("abcdefgh", 2, 7);
        textFault("abcdefghi", 2, 7);
        textFault(" abcdefghijklmnopqrstuvwxyz", 2, 8);
        textFault("abcdefg\nbcdefghi", 2, 15);
        text("abcdefg hijklmn", 2);
        textFault("zzzzzzzz", 2, 7);
        textFault("abcdefg1", 1, 7);
    }

    private static void rowThatWasThere() {
        DUE.about("Terms 2, FAULT 3 a row of letters, 7 at most, that was there (at its first "
                + "letter)");
        textFault("a a", 3, 2);
        textFault("a a a", 3, 2);
        textFault("a b  a", 3, 5);
        textFault("a b b a", 3, 4);
        textFault("abcdefg abcdefg", 3, 8);
        textFault("abcdefg abcdefgh", 2, 15);
        textFault("abcdefg abcdefg1", 3, 8);
        text("abcdefg abcdef abcdefh", 3);
        text("a aa aaa", 3);
        textFault(Due.rows(39) + "aa", 3, 117);
        textFault(Due.rows(39) + "bm", 3, 117);
    }

    private static void fortyFirstWord() {
        DUE.about("Terms 2, FAULT 4 a 41st WORD (at its first letter)");
        text(Due.rows(40), 40);
        text(Due.rows(40) + "  \n", 40);
        textFault(Due.rows(40) + "z", 4, 120);
        textFault(Due.rows(40) + " \n zzzzzzz", 4, 123);
        textFault(Due.rows(41) + "z", 4, 120);
        // a row of 8 is no WORD, so no 41st one
        textFault(Due.rows(40) + "zzzzzzzz", 2, 127);
        textFault(Due.rows(40) + "1", 1, 120);
    }

    private static void aheadOfThree() {
        DUE.about("Terms 2, FAULT 4 ahead of 3");
        textFault(Due.rows(40) + "aa", 4, 120);
        textFault(Due.rows(40) + "bn", 4, 120);
        textFault(Due.rows(40) + "zz aa", 4, 120);
        // the 40th is no 41st
        textFault(Due.rows(39) + "aa zz", 3, 117);
        textFault(Due.rows(39) + "bm zz", 3, 117);
    }

    private static void firstByPlace() {
        DUE.about("Terms 2, FAULTS, the first by place");
        textFault("a 1 abcdefgh a", 1, 2);
        textFault("a abcdefgh 1 a", 2, 9);
        textFault("a a abcdefgh 1", 3, 2);
        textFault("abcdefgh1", 2, 7);
        textFault("1abcdefgh", 1, 0);
        textFault("abcdefg1h", 1, 7);
        textFault("a a1", 3, 2);
        textFault("a1 a", 1, 1);
        textFault("a b1a", 1, 3);
        textFault(Due.rows(40) + "z1", 4, 120);
        textFault("1" + Due.rows(41), 1, 0);
        textFault(Due.rows(39) + "abcdefgh zz zy", 2, 124);
        textFault("aa " + Due.rows(41), 3, 3);
        textFault(Due.rows(40) + "z abcdefgh", 4, 120);
    }

    private static void wrongSign() {
        DUE.about("Terms 2, FAULT 1 of a PATTERN, a byte that is none of its signs (at it)");
        for (int sign = 0; sign < 256; sign++) {
            String one = "" + (char) sign;
            TurnedWords x = new TurnedWords();
            if (sign >= 'a' && sign <= 'z' || sign == '?' || sign == '*') {
                is("pattern() of byte " + sign, Due.pattern(x, one), 1);
                fault(x, 0, -1);
            } else {
                patternFault(one, 1, 0);
                patternFault("abcdefghijk" + one, 1, 11);
            }
        }
    }

    private static void thirteenthByte() {
        DUE.about("Terms 2, FAULT 5 a 13th byte, whatever it is (at 12)");
        String twelve = "abc?efg*ijkl";
        pattern(twelve, 1, "0ijkl$abc 0efg");
        for (int sign = 0; sign < 256; sign++) {
            patternFault(twelve + (char) sign, 5, 12);
        }
        patternFault(twelve + "mn", 5, 12);
        patternFault(twelve + twelve, 5, 12);
    }

    private static void emptyPattern() {
        DUE.about("Terms 2, FAULT 6 it is empty (at 0)");
        TurnedWords x = new TurnedWords();
        is("pattern()", x.pattern(), -1);
        fault(x, 6, 0);
        TurnedWords y = new TurnedWords();
        Due.tape(y, "abc");
        y.end(0);
        is("pattern()", y.pattern(), -1);
        fault(y, 6, 0);
        patternFault(" ", 1, 0);
        pattern("*", 1, "0$");
    }

    private static void firstByPlaceInPattern() {
        DUE.about("Terms 2, FAULTS of a PATTERN, the first by place");
        patternFault("a b c", 1, 1);
        patternFault("abcdefghijk lm", 1, 11);
        patternFault(" abcdefghijkl", 1, 0);
        patternFault("abcdefghijkl m", 5, 12);
    }

    // ---- Terms 3

    private static void aloneIs(String words, int word, int signs, int k, int number) {
        TurnedWords x = Due.with(words);
        is("alone(" + word + ", 0) of " + words, x.alone(word, 0), signs);
        is("alone(" + word + ", 1) of " + words, x.alone(word, 1), k);
        is("alone(" + word + ", 2) of " + words, x.alone(word, 2), number);
    }

    private static void aloneFirstByNumber() {
        DUE.about("Terms 3, ALONE, the TURN: of several the first by number");
        // $a a$
        aloneIs("a", 0, 1, 0, 1);
        aloneIs("gfedcba", 0, 1, 0, 7);
        // $ab $ba a$b ab$ b$a ba$: two SIGNS of each TURN
        aloneIs("ab ba", 0, 2, 0, 3);
        aloneIs("ab ba", 1, 2, 0, 5);
        // $xba $xz a$xb ba$x xba$ xz$ z$x: k 1 and 2 by one SIGN, k 0 by two
        aloneIs("xba xz", 0, 1, 1, 3);
        // $bbx $cb b$c bbx$ bx$b cb$ x$bb: k 2 alone
        aloneIs("bbx cb", 0, 1, 2, 6);
        // $ab $ba $bb a$b ab$ b$a b$b ba$ bb$: k 0 and 2 by two SIGNS
        aloneIs("ab ba bb", 2, 2, 0, 8);
        // $ab $b ab$ b$ b$a: b$ begins b$a, so k 1
        aloneIs("ab b", 1, 2, 1, 1);
    }

    private static void fewestSigns() {
        DUE.about("Terms 3, ALONE, the fewest SIGNS");
        aloneIs("a b", 0, 1, 0, 2);
        // six SIGNS of each of its TURNS begin another one: its seven letters tell it
        String six = "abcde abcdefh abcdg abcfg abefg adefg bcdefg cdefg";
        aloneIs("abcdefg " + six, 1, 7, 0, 10);
        // each of its TURNS begins another one, but for the last one without the WORD abcdefx
        String most = "abbcdef abcdexf abcdxef abcxdef abxcdef xabcdef";
        aloneIs("abcdef " + most, 1, 7, 6, 1);
        aloneIs("abcdef abcdefx " + most, 1, -2, -2, -2);
    }

    private static void nearIs(String words, int due) {
        TurnedWords x = Due.with(words);
        is("near(0, -1) of " + words, x.near(0, -1), due);
        is("near(0, 0) of " + words, x.near(0, 0), due == 0 ? -2 : 1);
    }

    private static void nearByOne() {
        DUE.about("Terms 3, NEAR, as long as it with one letter, just one, another one");
        nearIs("a", 0);
        nearIs("a b", 1);
        nearIs("a ab", 0);
        nearIs("ab ac", 1);
        nearIs("ab bb", 1);
        nearIs("ab ba", 0);
        nearIs("ab abc", 0);
        nearIs("abcdefg abcdefh", 1);
        nearIs("abcdefg zbcdefg", 1);
        nearIs("abcdefg zbcdefz", 0);
    }

    private static void askIs(String words, int due) {
        TurnedWords x = Due.with(words);
        is("count(12) of " + words, x.count(12), due);
        is("once more", x.count(12), due);
    }

    private static void leastPlace() {
        DUE.about("Terms 3, ASK, of several the least place");
        askIs("a", 0);
        askIs("abcdefg", 0);
        askIs("a b", 0);
        askIs("aa bb", 0);
        askIs("aa ab", 1);
        askIs("aa ab ba bb", 0);
        askIs("aaaaabb aaaaacc", 5);
        askIs("aaaaaaa aaaaaab", 6);
        askIs("aaaaaa aaaaaab", 6);
        // of none at a place as many are alike as of a letter
        askIs("a ab b", 0);
        askIs("a ab abc", 1);
        askIs("aab ab ac bb", 1);
    }

    private static void latestFour() {
        DUE.about("Terms 3, MERGES that can be UNDONE: the latest 4");
        TurnedWords x = Due.with("a");
        for (int i = 0; i < 6; i++) {
            merged(x, Due.row(i));
            is("count(13) after " + (i + 1), x.count(13), Math.min(i + 1, 4));
        }
        DUE.isText("WORDS", Due.all(x, false), "a aa ab ac ad ae af");
        String[] due = {"a aa ab", "a aa ab ac", "a aa ab ac ad", "a aa ab ac ad ae"};
        for (int more = 3; more >= 0; more--) {
            is("undo()", x.undo(), more);
            DUE.isText("WORDS", Due.all(x, false), due[more]);
            is("count(13)", x.count(13), more);
        }
        is("undo() of the fifth", x.undo(), -1);
        DUE.isText("WORDS", Due.all(x, false), "a aa ab");
    }

    private static void emptyMerge() {
        DUE.about("Terms 3, merge() of an empty BATCH is none");
        TurnedWords x = Due.with("a");
        x.merge();
        is("count(13)", x.count(13), 0);
        is("undo()", x.undo(), -1);
        for (int i = 0; i < 4; i++) {
            merged(x, Due.row(i));
            x.merge();
            is("count(13)", x.count(13), i + 1);
        }
        x.merge();
        is("count(13)", x.count(13), 4);
        for (int more = 3; more >= 0; more--) {
            is("undo()", x.undo(), more);
            x.merge();
            is("count(13)", x.count(13), more);
        }
        DUE.isText("WORDS", Due.all(x, false), "a");
        // one that comes and goes is a BATCH of two edits, not an empty one
        Due.comes(x, "b");
        Due.goes(x, "b");
        is("merge()", x.merge(), 0);
        is("count(13)", x.count(13), 1);
    }

    private static void undoneBatch() {
        DUE.about("Terms 3, then the DICTIONARY is as it was ahead, the BATCH empty");
        TurnedWords x = Due.with("b d");
        Due.goes(x, "b");
        Due.comes(x, "c");
        x.merge();
        Due.comes(x, "e");
        Due.goes(x, "d");
        is("undo()", x.undo(), 0);
        DUE.isText("WORDS", Due.all(x, false), "b d");
        DUE.isText("COMING", Due.all(x, true), "b d");
        is("count(2)", x.count(2), 0);
        is("cancel()", x.cancel(), 0);
    }

    private static void leaveNone() {
        DUE.about("Terms 3, words() without a FAULT, again() leave none");
        TurnedWords x = Due.with("a");
        x.image(0);
        merged(x, "b");
        merged(x, "c");
        is("words() with a FAULT", Due.words(x, "a a"), -1);
        is("count(13)", x.count(13), 2);
        Due.pattern(x, "a*");
        Due.pattern(x, "");
        is("pattern() leaves them", x.count(13), 2);
        is("again() of no image", x.again(1) ? 1 : 0, 0);
        is("count(13)", x.count(13), 2);
        is("again(0)", x.again(0) ? 1 : 0, 1);
        is("count(13)", x.count(13), 0);
        is("undo()", x.undo(), -1);
        merged(x, "d");
        is("words()", Due.words(x, "a d"), 2);
        is("count(13)", x.count(13), 0);
        is("undo()", x.undo(), -1);
        merged(x, "e");
        is("words() of nothing", x.words(), 0);
        is("count(13)", x.count(13), 0);
        is("undo()", x.undo(), -1);
        is("count(0)", x.count(0), 0);
    }
}
