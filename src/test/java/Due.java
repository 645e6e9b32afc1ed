/** Compares answers with what is due, and knows how many were wrong. */
final class Due {
    private final String test;
    private String sentence = "";
    private int asked = 0;
    private int askedOfSentence = 1;
    private int wrong = 0;

    Due(String test) {
        this.test = test;
    }

    /** The sentence of the document that the next answers are about; each has one at least. */
    void about(String words) {
        countSentence();
        sentence = words + ": ";
        askedOfSentence = 0;
    }

    private void countSentence() {
        if (askedOfSentence == 0) {
            wrong++;
            System.out.println(test + ": " + sentence + "nothing was asked");
        }
    }

    void is(String call, long got, long due) {
        asked++;
        askedOfSentence++;
        if (got != due) {
            wrong++;
            if (wrong <= 40) {
                System.out.println(test + ": " + sentence + call + " answered " + got
                        + ", due is " + due);
            }
        }
    }

    void is(String call, boolean got, boolean due) {
        is(call, got ? 1 : 0, due ? 1 : 0);
    }

    /** Ends the program with exit code 1 if an answer was wrong or none was asked for. */
    void finish() {
        countSentence();
        System.out.println(test + ": " + asked + " answers, " + wrong + " of them wrong");
        if (wrong != 0 || asked == 0) {
            System.exit(1);
        }
    }

    /** Puts a text on the tape behind what it has; the last feed's rest is cut off. */
    static void tape(TurnedWords x, String text) {
        int had = x.count(14);
        for (int from = 0; from < text.length(); from += 20) {
            x.feed(four(text, from), four(text, from + 4), four(text, from + 8),
                    four(text, from + 12), four(text, from + 16));
        }
        x.end(had + text.length());
    }

    private static int four(String text, int from) {
        int bytes = 0;
        for (int i = from; i < from + 4; i++) {
            bytes = bytes << 8 | (i < text.length() ? text.charAt(i) & 255 : 32);
        }
        return bytes;
    }

    static int words(TurnedWords x, String text) {
        tape(x, text);
        return x.words();
    }

    static int pattern(TurnedWords x, String text) {
        tape(x, text);
        return x.pattern();
    }

    static int comes(TurnedWords x, String word) {
        tape(x, word);
        return x.edit(false);
    }

    static int goes(TurnedWords x, String word) {
        tape(x, word);
        return x.edit(true);
    }

    static TurnedWords with(String text) {
        TurnedWords x = new TurnedWords();
        words(x, text);
        return x;
    }

    /** A word of the dictionary (of the coming one) as a text, by word() alone. */
    static String text(TurnedWords x, int word, boolean coming) {
        StringBuilder text = new StringBuilder();
        int letters = x.word(word, coming, 0);
        for (int i = 0; i < letters; i++) {
            text.append((char) x.word(word, coming, 1 + i));
        }
        return text.toString();
    }

    /** All words, blanks between. */
    static String all(TurnedWords x, boolean coming) {
        StringBuilder text = new StringBuilder();
        for (int w = 0; w < x.count(coming ? 3 : 0); w++) {
            text.append(w == 0 ? "" : " ").append(text(x, w, coming));
        }
        return text.toString();
    }

    /** The signs of a turn. */
    static String turn(TurnedWords x, int turn) {
        StringBuilder signs = new StringBuilder();
        for (int i = 0; i < 9 && x.turn(turn, 2 + i) != -1; i++) {
            signs.append((char) x.turn(turn, 2 + i));
        }
        return signs.toString();
    }

    /** All runs, blanks between, each behind its piece's number: "0c$a 1b". */
    static String runs(TurnedWords x) {
        StringBuilder text = new StringBuilder();
        for (int run = 0; run < x.count(7); run++) {
            text.append(run == 0 ? "" : " ").append(x.run(run, 1));
            for (int i = 0; i < x.run(run, 0); i++) {
                text.append((char) x.run(run, 5 + i));
            }
        }
        return text.toString();
    }

    /** All counts but that of the bytes on the tape. */
    static String counts(TurnedWords x) {
        StringBuilder text = new StringBuilder();
        for (int what = 0; what <= 16; what++) {
            text.append(what == 14 ? "" : " " + x.count(what));
        }
        return text.toString();
    }

    /** What can be seen of all but the tape and the fault; for a few short words. */
    static String seen(TurnedWords x) {
        StringBuilder text = new StringBuilder(all(x, false));
        text.append(" coming ").append(all(x, true)).append(" runs ").append(runs(x));
        text.append(" turns");
        for (int turn = 0; turn < 400 && x.turn(turn, 0) != -1; turn++) {
            text.append(' ').append(x.turn(turn, 0)).append('.').append(x.turn(turn, 1));
        }
        return text.append(" counts").append(counts(x)).toString();
    }

    /** Row i of many different ones of two letters, rising: aa, ab, .. */
    static String row(int i) {
        return "" + (char) ('a' + i / 26) + (char) ('a' + i % 26);
    }

    /** So many rows of two letters, a blank behind each: the n-th begins at 3 n. */
    static String rows(int many) {
        StringBuilder text = new StringBuilder();
        for (int i = 0; i < many; i++) {
            text.append(row(i)).append(' ');
        }
        return text.toString();
    }

    void isText(String call, String got, String due) {
        is(call + " (" + got + " for " + due + ")", got.equals(due), true);
    }
}
