import java.util.Random;

/**
 * Runs of calls, drawn by fixed seeds, on the class and on the model: the same answers. What is
 * drawn hangs on the model alone, so that the class has no call that is not compared.
 */
public final class ModelTest {
    private static final int RUNS = 600;
    private static final int CALLS = 512;
    /** A full tape put and taken is 23 calls. */
    private static final int MOST_AT_ONCE = 30;
    private static final int[] ODD = {
        Integer.MIN_VALUE, Integer.MIN_VALUE + 1, -256, -3, -2, -1, 7, 8, 9, 11, 12, 13, 36, 39, 40,
        41, 42, 63, 96, 97, 122, 123, 256, 319, 320, 321, 400, Integer.MAX_VALUE - 1,
        Integer.MAX_VALUE
    };

    private final Due due = new Due("ModelTest");
    private final Random random;
    private final int seed;
    private final int letters;
    private final int longest;
    private final TurnedWords x = new TurnedWords();
    private final Model y = new Model();
    private int calls = 0;
    private boolean right = true;

    private ModelTest(int seed) {
        this.seed = seed;
        random = new Random(seed);
        letters = 1 + random.nextInt(seed % 3 == 0 ? 26 : 4);
        longest = 1 + random.nextInt(7);
    }

    public static void main(String[] args) {
        Due all = new Due("ModelTest");
        for (int seed = 0; seed < RUNS; seed++) {
            ModelTest test = new ModelTest(seed);
            all.is("run " + seed, test.isRight(), true);
        }
        all.finish();
    }

    private boolean isRight() {
        tape(text());
        is("words()", x.words(), y.words());
        while (calls + MOST_AT_ONCE <= CALLS && right) {
            if (random.nextInt(5) == 0) {
                change();
            } else {
                ask();
            }
        }
        return right;
    }

    private void is(String call, long got, long want) {
        calls++;
        if (got != want && right) {
            right = false;
            due.is("run " + seed + ", call " + calls + ", " + call, got, want);
        }
    }

    private int any(int below) {
        return random.nextInt(12) == 0 ? ODD[random.nextInt(ODD.length)]
                : random.nextInt(Math.max(1, below) + 1);
    }

    private String row(int most) {
        StringBuilder row = new StringBuilder();
        int length = 1 + random.nextInt(most);
        for (int i = 0; i < length; i++) {
            row.append((char) ('a' + random.nextInt(letters)));
        }
        return row.toString();
    }

    private String text() {
        StringBuilder text = new StringBuilder();
        java.util.TreeSet<String> had = new java.util.TreeSet<>();
        int rows = random.nextInt(random.nextBoolean() ? 60 : 16);
        int strange = random.nextInt(6);
        for (int i = 0; i < rows; i++) {
            String row = row(strange == 1 && random.nextInt(12) == 0 ? 9 : longest);
            if (had.add(row) || strange == 0 && random.nextInt(8) == 0) {
                text.append(row);
                text.append(random.nextInt(9) == 0 ? " \n" : random.nextInt(9) == 0 ? "\n" : " ");
                if (strange == 2 && random.nextInt(20) == 0) {
                    text.append((char) random.nextInt(256));
                }
            }
        }
        return text.length() > 400 ? text.substring(0, 400) : text.toString();
    }

    private String signs() {
        StringBuilder signs = new StringBuilder();
        int length = random.nextInt(20) == 0 ? random.nextInt(16) : 1 + random.nextInt(12);
        int stars = random.nextInt(3);
        for (int i = 0; i < length; i++) {
            int kind = random.nextInt(6);
            signs.append(kind < stars ? '*' : kind == 3 ? '?' : row(1).charAt(0));
            if (random.nextInt(150) == 0) {
                signs.append((char) random.nextInt(256));
            }
        }
        return signs.toString();
    }

    private void edit() {
        int many = y.count(3);
        boolean off = many > 0 && random.nextInt(5) < 2;
        String word = row(random.nextInt(15) == 0 ? 9 : longest);
        tape(off ? comingWord(random.nextInt(many))
                : random.nextInt(20) == 0 ? word + " " : word);
        // now and then the wrong way round
        boolean asked = off != (random.nextInt(10) == 0);
        is("edit(" + asked + ")", x.edit(asked), y.edit(asked));
    }

    private String comingWord(int word) {
        StringBuilder text = new StringBuilder();
        for (int i = 0; i < y.word(word, true, 0); i++) {
            text.append((char) y.word(word, true, 1 + i));
        }
        return text.toString();
    }

    private void feed(String text) {
        for (int from = 0; from < text.length(); from += 20) {
            int[] fed = new int[5];
            for (int i = 0; i < 20; i++) {
                int sign = from + i < text.length() ? text.charAt(from + i) : random.nextInt(256);
                fed[i / 4] = fed[i / 4] << 8 | sign;
            }
            is("feed", x.feed(fed[0], fed[1], fed[2], fed[3], fed[4]), y.feed(fed));
        }
    }

    private void tape(String text) {
        is("end(0)", x.end(0), y.end(0));
        feed(text);
        is("end", x.end(text.length()), y.end(text.length()));
    }

    private void change() {
        int kind = random.nextInt(43);
        if (kind < 3) {
            tape(text());
            is("words()", x.words(), y.words());
        } else if (kind < 12) {
            tape(signs());
            is("pattern()", x.pattern(), y.pattern());
        } else if (kind < 26) {
            for (int edits = 1 + random.nextInt(4); edits > 0; edits--) {
                edit();
            }
        } else if (kind < 31) {
            is("merge()", x.merge(), y.merge());
        } else {
            changeMore(kind);
        }
    }

    private void changeMore(int kind) {
        int k = any(2);
        if (kind < 33) {
            is("undo()", x.undo(), y.undo());
        } else if (kind == 33) {
            is("cancel()", x.cancel(), y.cancel());
        } else if (kind < 36) {
            is("image(" + k + ")", x.image(k) ? 1 : 0, y.image(k) ? 1 : 0);
        } else if (kind == 36) {
            is("again(" + k + ")", x.again(k) ? 1 : 0, y.again(k) ? 1 : 0);
        } else if (kind == 37) {
            int n = any(20);
            is("end(" + n + ")", x.end(n), y.end(n));
        } else if (kind < 40) {
            tape(random.nextInt(20) == 0 ? text() : row(7));
        } else {
            takeTape();
        }
    }

    /** Whatever is on it, so that an image's tape is looked at, too. */
    private void takeTape() {
        switch (y.count(14) == 0 ? 3 : random.nextInt(4)) {
            case 0:
                is("words()", x.words(), y.words());
                break;
            case 1:
                is("pattern()", x.pattern(), y.pattern());
                break;
            default:
                is("edit(false)", x.edit(false), y.edit(false));
        }
    }

    private void ask() {
        boolean flag = random.nextBoolean();
        int word = any(y.count(0));
        int small = any(12);
        switch (random.nextInt(14)) {
            case 0:
            case 1:
                int what = any(17);
                is("count(" + what + ")", x.count(what), y.count(what));
                break;
            case 2:
                is("fault(" + small + ")", x.fault(small), y.fault(small));
                is("fault(0)", x.fault(0), y.fault(0));
                is("fault(1)", x.fault(1), y.fault(1));
                break;
            case 3:
                is("word(" + word + ", " + flag + ", " + small + ")",
                        x.word(word, flag, small), y.word(word, flag, small));
                break;
            case 4:
                int k = any(y.count(4));
                is("answer(" + k + ", " + flag + ")", x.answer(k, flag), y.answer(k, flag));
                break;
            case 5:
                int turn = any(y.count(1));
                is("turn(" + turn + ", " + small + ")", x.turn(turn, small), y.turn(turn, small));
                break;
            case 6:
                int run = any(y.count(7));
                is("run(" + run + ", " + small + ")", x.run(run, small), y.run(run, small));
                break;
            case 7:
                int which = any(y.count(7));
                is("of(" + which + ", " + small + ")", x.of(which, small), y.of(which, small));
                break;
            default:
                askMore(word, small, flag);
        }
    }

    private void askMore(int word, int small, boolean flag) {
        switch (random.nextInt(6)) {
            case 0:
                is("shared(" + small + ")", x.shared(small), y.shared(small));
                break;
            case 1:
                int what = any(3);
                is("alone(" + word + ", " + what + ")", x.alone(word, what), y.alone(word, what));
                break;
            case 2:
                int k = any(5) - 1;
                is("near(" + word + ", " + k + ")", x.near(word, k), y.near(word, k));
                break;
            case 3:
                int n = flag ? any(26) + 97 : any(8);
                is("tally(" + n + ", " + flag + ")", x.tally(n, flag), y.tally(n, flag));
                break;
            case 4:
                int letter = any(letters) + 97;
                is("places(" + word + ", " + letter + ")",
                        x.places(word, letter), y.places(word, letter));
                break;
            default:
                int sign = random.nextInt(3) == 0 ? ODD[random.nextInt(ODD.length)]
                        : 97 + random.nextInt(letters);
                is("instead(" + small + ", " + sign + ")",
                        x.instead(small, sign), y.instead(small, sign));
        }
    }
}
