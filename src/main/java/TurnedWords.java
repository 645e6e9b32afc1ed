/**
 * A dictionary that is asked by patterns with gaps: each word laid down in all its turns with a
 * mark at its end, sorted. Words and turns are rows of signs in one long each (see Row), sets of
 * words are bits of a long (see Bits); all rooms are made once and used again.
 */
public final class TurnedWords {

    /** There is none. */
    public static final int NONE = -1;

    /** What alone and near answer where NONE has another meaning. */
    private static final int NOT_SO = -2;

    private static final int MARK = 36;
    private static final int STAR = 42;
    private static final int ANY_LETTER = 63;
    private static final int FIRST_LETTER = 97;
    private static final int LAST_LETTER = 122;

    private static final int MOST_LETTERS = 7;
    private static final int MOST_SIGNS = MOST_LETTERS + 1;
    private static final int MOST_WORDS = 40;
    private static final int MOST_TURNS = MOST_WORDS * MOST_SIGNS;
    private static final int MOST_BYTES = 400;
    private static final int FED_BYTES = 20;
    private static final int PATTERN_SIGNS = 12;
    private static final int CUT_SIGNS = PATTERN_SIGNS + 1;
    private static final int MOST_EDITS = 12;
    private static final int MOST_UNDONE = 4;
    private static final int IMAGES = 3;

    private final State now;
    private final State[] images;
    private final Merges merges;
    private final Cut cut;
    /** The turns of the dictionary, and room for those of the one that comes. */
    private Index index;
    private Index otherIndex;
    /** Rooms for what is only tried, so that no call makes an object for it. */
    private final Rising readWords;
    private final Pattern triedPattern;
    private final int[] alike;

    public TurnedWords() {
        now = new State();
        images = new State[IMAGES];
        merges = new Merges();
        cut = new Cut();
        cut.lay(now.pattern);
        index = new Index();
        otherIndex = new Index();
        readWords = new Rising(MOST_WORDS);
        triedPattern = new Pattern();
        alike = new int[Row.CODES];
    }

    // ---- the tape

    public int feed(int a, int b, int c, int d, int e) {
        Tape tape = now.tape;
        if (tape.size() + FED_BYTES > MOST_BYTES) {
            return NONE;
        }
        tape.append(a);
        tape.append(b);
        tape.append(c);
        tape.append(d);
        tape.append(e);
        return tape.size();
    }

    public int end(int n) {
        return now.tape.shorten(n) ? n : NONE;
    }

    public int words() {
        Reader.readWords(now.tape, readWords, now.fault);
        now.tape.shorten(0);
        if (now.fault.isThere()) {
            return NONE;
        }
        merges.clear();
        setDictionary(readWords);
        return now.dictionary.size();
    }

    public int pattern() {
        Reader.checkPattern(now.tape, now.fault);
        if (!now.fault.isThere()) {
            now.pattern.take(now.tape);
            cut.lay(now.pattern);
        }
        now.tape.shorten(0);
        return now.fault.isThere() ? NONE : cut.pieces();
    }

    public int fault(int what) {
        switch (what) {
            case 0:
                return now.fault.kind;
            case 1:
                return now.fault.place;
            default:
                return NONE;
        }
    }

    // ---- edits

    public int edit(boolean off) {
        long word = Reader.onlyWord(now.tape);
        now.tape.shorten(0);
        if (word == Row.EMPTY || now.edits >= MOST_EDITS) {
            return NONE;
        }
        boolean taken = off ? now.coming.drop(word) : now.coming.add(word);
        if (!taken) {
            return NONE;
        }
        now.edits++;
        return now.edits;
    }

    public int cancel() {
        int had = now.edits;
        now.emptyBatch();
        return had;
    }

    public int merge() {
        if (now.edits == 0) {
            return 0;
        }
        merges.keep(now.dictionary);
        Index before = index;
        setDictionary(now.coming);
        return Index.moved(before, index);
    }

    public int undo() {
        if (merges.size() == 0) {
            return NONE;
        }
        setDictionary(merges.takeLatest());
        return merges.size();
    }

    // ---- what there is

    public int count(int what) {
        switch (what) {
            case 0:
                return now.dictionary.size();
            case 1:
                return index.size();
            case 2:
                return now.edits;
            case 3:
                return now.coming.size();
            case 4:
                return Long.bitCount(answersOf(now.dictionary, now.pattern));
            case 5:
                return Long.bitCount(answersOf(now.coming, now.pattern));
            case 6:
                return cut.pieces();
            case 7:
                return cut.runs();
            case 8:
                return longestRun();
            case 9:
                return narrowestRun();
            case 10:
                return Long.bitCount(sharedWords());
            default:
                return countMore(what);
        }
    }

    public int word(int word, boolean coming, int what) {
        Rising list = listOf(coming);
        if (!list.hasNumber(word)) {
            return NONE;
        }
        long row = list.at(word);
        if (what == 0) {
            return Row.length(row);
        }
        if (what == 10) {
            return now.pattern.isMetBy(row) ? 1 : 0;
        }
        return what < 0 ? NONE : Row.signAt(row, what - 1);
    }

    public int answer(int k, boolean coming) {
        return Bits.numberOf(answersOf(listOf(coming), now.pattern), k);
    }

    public int turn(int turn, int what) {
        if (turn < 0 || turn >= index.size() || what < 0) {
            return NONE;
        }
        switch (what) {
            case 0:
                return index.wordAt(turn);
            case 1:
                return index.numberAt(turn);
            default:
                return Row.signAt(index.signsAt(turn), what - 2);
        }
    }

    public int run(int run, int what) {
        if (!cut.hasRun(run) || what < 0) {
            return NONE;
        }
        switch (what) {
            case 0:
                return cut.lengthOf(run);
            case 1:
                return cut.pieceOf(run);
            case 2:
                return rangeSize(run) == 0 ? NONE : index.from(cut.headOf(run));
            case 3:
                return rangeSize(run);
            case 4:
                return Long.bitCount(wordsOfRun(run));
            default:
                return cut.signOf(run, what - 5);
        }
    }

    public int of(int run, int k) {
        return cut.hasRun(run) ? Bits.numberOf(wordsOfRun(run), k) : NONE;
    }

    public int shared(int k) {
        return Bits.numberOf(sharedWords(), k);
    }

    public int alone(int word, int what) {
        if (!now.dictionary.hasNumber(word) || what < 0 || what > 2) {
            return NONE;
        }
        long row = now.dictionary.at(word);
        for (int signs = 1; signs <= MOST_SIGNS; signs++) {
            int k = index.firstAlone(row, signs);
            if (k != NONE) {
                return what == 0 ? signs : what == 1 ? k : index.placeOf(row, k);
            }
        }
        return NOT_SO;
    }

    public int near(int word, int k) {
        if (!now.dictionary.hasNumber(word)) {
            return NOT_SO;
        }
        long near = nearWords(now.dictionary.at(word));
        if (k == NONE) {
            return Long.bitCount(near);
        }
        int found = Bits.numberOf(near, k);
        return found == NONE ? NOT_SO : found;
    }

    public int tally(int n, boolean turned) {
        if (turned) {
            return isLetter(n) ? wordsWithLetter(n) : NONE;
        }
        return n >= 1 && n <= MOST_LETTERS ? wordsOfLength(n) : NONE;
    }

    public int places(int word, int letter) {
        if (!now.dictionary.hasNumber(word) || !isLetter(letter)) {
            return NONE;
        }
        return Row.placesOf(now.dictionary.at(word), letter);
    }

    public int instead(int i, int sign) {
        if (!now.pattern.hasPlace(i) || !Pattern.isSign(sign)) {
            return NONE;
        }
        triedPattern.copy(now.pattern);
        triedPattern.put(i, sign);
        return Long.bitCount(answersOf(now.dictionary, triedPattern));
    }

    public boolean image(int k) {
        if (k < 0 || k >= IMAGES) {
            return false;
        }
        if (images[k] == null) {
            images[k] = new State();
        }
        images[k].copy(now);
        return true;
    }

    public boolean again(int k) {
        if (k < 0 || k >= IMAGES || images[k] == null) {
            return false;
        }
        now.copy(images[k]);
        merges.clear();
        cut.lay(now.pattern);
        layIndex();
        return true;
    }

    // ---- helpers

    private static boolean isLetter(int sign) {
        return sign >= FIRST_LETTER && sign <= LAST_LETTER;
    }

    private void setDictionary(Rising words) {
        now.dictionary.copy(words);
        now.emptyBatch();
        layIndex();
    }

    /** The index of before stays whole in the other room, for merge to compare with. */
    private void layIndex() {
        Index before = index;
        index = otherIndex;
        otherIndex = before;
        index.lay(now.dictionary);
    }

    private Rising listOf(boolean coming) {
        return coming ? now.coming : now.dictionary;
    }

    private int countMore(int what) {
        switch (what) {
            case 11:
                return stem(answersOf(now.dictionary, now.pattern));
            case 12:
                return placeToAsk(answersOf(now.dictionary, now.pattern));
            case 13:
                return merges.size();
            case 14:
                return now.tape.size();
            case 15:
                // each word has one turn more than letters
                return index.size() - now.dictionary.size();
            case 16:
                return wordsThatBeginAlone();
            default:
                return NONE;
        }
    }

    /** Sets of words are bits of a long, bit w for word w: 40 words fit. */
    private static long answersOf(Rising words, Pattern pattern) {
        long answers = 0;
        for (int w = 0; w < words.size(); w++) {
            if (pattern.isMetBy(words.at(w))) {
                answers |= Bits.bit(w);
            }
        }
        return answers;
    }

    private int rangeSize(int run) {
        return index.to(cut.headOf(run), cut.lengthOf(run)) - index.from(cut.headOf(run));
    }

    private long wordsOfRun(int run) {
        return index.wordsThatTurnTo(cut.headOf(run), cut.lengthOf(run));
    }

    private int longestRun() {
        int longest = 0;
        for (int run = 1; run < cut.runs(); run++) {
            if (cut.lengthOf(run) > cut.lengthOf(longest)) {
                longest = run;
            }
        }
        return longest;
    }

    private int narrowestRun() {
        int narrowest = 0;
        for (int run = 1; run < cut.runs(); run++) {
            if (rangeSize(run) < rangeSize(narrowest)) {
                narrowest = run;
            }
        }
        return narrowest;
    }

    private long sharedWords() {
        // there is a run always, that of the mark
        long shared = wordsOfRun(0);
        for (int run = 1; run < cut.runs(); run++) {
            shared &= wordsOfRun(run);
        }
        return shared;
    }

    /** Words stand in order, so what the first and the last answer begin with, all of them do. */
    private int stem(long answers) {
        int many = Long.bitCount(answers);
        if (many == 0) {
            return 0;
        }
        long first = now.dictionary.at(Bits.numberOf(answers, 0));
        long last = now.dictionary.at(Bits.numberOf(answers, many - 1));
        int stem = 0;
        while (stem < Row.length(first) && Row.codeAt(first, stem) == Row.codeAt(last, stem)) {
            stem++;
        }
        return stem;
    }

    private int placeToAsk(long answers) {
        if (answers == 0) {
            return NONE;
        }
        int best = 0;
        int fewest = mostAlike(answers, 0);
        for (int place = 1; place < MOST_LETTERS; place++) {
            int most = mostAlike(answers, place);
            if (most < fewest) {
                best = place;
                fewest = most;
            }
        }
        return best;
    }

    private int mostAlike(long answers, int place) {
        for (int i = 0; i < alike.length; i++) {
            alike[i] = 0;
        }
        int most = 0;
        for (int w = 0; w < now.dictionary.size(); w++) {
            int code = Row.codeAt(now.dictionary.at(w), place);
            if (Bits.has(answers, w) && code >= 0 && code < alike.length) {
                alike[code]++;
                most = Math.max(most, alike[code]);
            }
        }
        return most;
    }

    /** Words that begin alike are neighbours; past either end at() has no letters to be alike. */
    private int wordsThatBeginAlone() {
        int many = 0;
        for (int w = 0; w < now.dictionary.size(); w++) {
            int first = Row.codeAt(now.dictionary.at(w), 0);
            if (first != Row.codeAt(now.dictionary.at(w - 1), 0)
                    && first != Row.codeAt(now.dictionary.at(w + 1), 0)) {
                many++;
            }
        }
        return many;
    }

    private long nearWords(long word) {
        long near = 0;
        for (int w = 0; w < now.dictionary.size(); w++) {
            if (Row.areNear(word, now.dictionary.at(w))) {
                near |= Bits.bit(w);
            }
        }
        return near;
    }

    private int wordsWithLetter(int letter) {
        int many = 0;
        for (int w = 0; w < now.dictionary.size(); w++) {
            if (Row.placesOf(now.dictionary.at(w), letter) != 0) {
                many++;
            }
        }
        return many;
    }

    private int wordsOfLength(int letters) {
        int many = 0;
        for (int w = 0; w < now.dictionary.size(); w++) {
            if (Row.length(now.dictionary.at(w)) == letters) {
                many++;
            }
        }
        return many;
    }

    /** All that an image holds. */
    private static final class State {
        final Tape tape;
        final Rising dictionary;
        /** The edits of the batch are in it already: that and their number is all of the batch. */
        final Rising coming;
        final Pattern pattern;
        final Fault fault;
        int edits;

        State() {
            tape = new Tape();
            dictionary = new Rising(MOST_WORDS);
            coming = new Rising(MOST_WORDS);
            pattern = new Pattern();
            fault = new Fault();
        }

        void emptyBatch() {
            coming.copy(dictionary);
            edits = 0;
        }

        void copy(State other) {
            tape.copy(other.tape);
            dictionary.copy(other.dictionary);
            coming.copy(other.coming);
            pattern.copy(other.pattern);
            fault.set(other.fault.kind, other.fault.place);
            edits = other.edits;
        }
    }

    /** Up to 400 bytes, each 0 to 255. */
    private static final class Tape {
        private final byte[] bytes;
        private int size;

        Tape() {
            bytes = new byte[MOST_BYTES];
        }

        int size() {
            return size;
        }

        int at(int place) {
            return place < 0 || place >= size ? NONE : bytes[place] & 255;
        }

        void append(int four) {
            for (int shift = 24; shift >= 0 && size < bytes.length; shift -= 8) {
                bytes[size] = (byte) (four >> shift);
                size++;
            }
        }

        boolean shorten(int to) {
            if (to < 0 || to > size) {
                return false;
            }
            size = to;
            return true;
        }

        void copy(Tape other) {
            size = other.size;
            System.arraycopy(other.bytes, 0, bytes, 0, size);
        }
    }

    /** What the latest reading of the tape came to. */
    private static final class Fault {
        static final int NO_FAULT = 0;
        static final int WRONG_BYTE = 1;
        static final int TOO_LONG = 2;
        static final int THERE_ALREADY = 3;
        static final int TOO_MANY_WORDS = 4;
        static final int TOO_MANY_SIGNS = 5;
        static final int NO_SIGNS = 6;

        int kind;
        int place;

        Fault() {
            kind = NO_FAULT;
            place = NONE;
        }

        boolean isThere() {
            return kind != NO_FAULT;
        }

        void set(int newKind, int newPlace) {
            kind = newKind;
            place = newKind == NO_FAULT ? NONE : newPlace;
        }
    }

    /** Reads the tape as a text, a pattern or a word. */
    private static final class Reader {

        private Reader() {
        }

        static void readWords(Tape tape, Rising words, Fault fault) {
            words.clear();
            fault.set(Fault.NO_FAULT, NONE);
            int place = 0;
            while (place < tape.size() && !fault.isThere()) {
                int letters = lettersFrom(tape, place);
                int kind = takeRow(tape, place, letters, words);
                fault.set(kind, kind == Fault.TOO_LONG ? place + MOST_LETTERS : place);
                place += Math.max(letters, 1);
            }
        }

        static void checkPattern(Tape tape, Fault fault) {
            fault.set(tape.size() == 0 ? Fault.NO_SIGNS : Fault.NO_FAULT, 0);
            for (int place = 0; place < tape.size() && !fault.isThere(); place++) {
                if (place >= PATTERN_SIGNS) {
                    fault.set(Fault.TOO_MANY_SIGNS, place);
                } else if (!Pattern.isSign(tape.at(place))) {
                    fault.set(Fault.WRONG_BYTE, place);
                }
            }
        }

        /** The word that all of the tape is, an empty row if it is none. */
        static long onlyWord(Tape tape) {
            int letters = lettersFrom(tape, 0);
            boolean isWord = letters == tape.size() && letters <= MOST_LETTERS;
            return isWord ? rowFrom(tape, 0, letters) : Row.EMPTY;
        }

        /** Takes the row at this place, or the byte that begins no row, and tells its fault. */
        private static int takeRow(Tape tape, int place, int letters, Rising words) {
            if (letters == 0) {
                return isBlank(tape.at(place)) ? Fault.NO_FAULT : Fault.WRONG_BYTE;
            }
            if (letters > MOST_LETTERS) {
                return Fault.TOO_LONG;
            }
            if (words.size() >= MOST_WORDS) {
                return Fault.TOO_MANY_WORDS;
            }
            boolean isNew = words.add(rowFrom(tape, place, letters));
            return isNew ? Fault.NO_FAULT : Fault.THERE_ALREADY;
        }

        private static boolean isBlank(int sign) {
            return sign == 10 || sign == 32;
        }

        private static int lettersFrom(Tape tape, int place) {
            int letters = 0;
            while (place + letters < tape.size() && isLetter(tape.at(place + letters))) {
                letters++;
            }
            return letters;
        }

        private static long rowFrom(Tape tape, int place, int letters) {
            long row = Row.EMPTY;
            for (int i = 0; i < letters; i++) {
                row = Row.put(row, i, tape.at(place + i));
            }
            return row;
        }
    }

    /**
     * A row of up to 8 signs in one long, five bits a sign, the first one highest, nothing behind
     * the last. The mark's code is below those of the letters and above nothing, so that rows as
     * numbers stand in the order that the document asks of words and of turns.
     */
    private static final class Row {
        static final long EMPTY = 0;
        static final int CODES = 32;
        static final int ALL_BITS = 40;
        private static final int SIGN_BITS = 5;
        private static final int MARK_CODE = 1;
        private static final int FIRST_LETTER_CODE = 2;

        private Row() {
        }

        private static boolean isPlace(int place) {
            return place >= 0 && place < MOST_SIGNS;
        }

        private static int shiftOf(int place) {
            return SIGN_BITS * (MOST_SIGNS - 1 - place);
        }

        private static int codeOf(int sign) {
            return sign == MARK ? MARK_CODE
                    : (sign - FIRST_LETTER + FIRST_LETTER_CODE) & (CODES - 1);
        }

        /** The row with a sign at a place that was empty; a place past the 8th is left out. */
        static long put(long row, int place, int sign) {
            return isPlace(place) ? row | ((long) codeOf(sign) << shiftOf(place)) : row;
        }

        /** 0 where there is no sign. It stands under the deepest calls and so calls nothing. */
        static int codeAt(long row, int place) {
            if (place < 0 || place >= MOST_SIGNS) {
                return 0;
            }
            return (int) (row >> SIGN_BITS * (MOST_SIGNS - 1 - place)) & (CODES - 1);
        }

        static int signAt(long row, int place) {
            int code = codeAt(row, place);
            if (code == 0) {
                return NONE;
            }
            return code == MARK_CODE ? MARK : code - FIRST_LETTER_CODE + FIRST_LETTER;
        }

        static int length(long row) {
            int length = 0;
            while (length < MOST_SIGNS && codeAt(row, length) != 0) {
                length++;
            }
            return length;
        }

        static long head(long row, int signs) {
            int left = SIGN_BITS * (MOST_SIGNS - Math.max(0, Math.min(signs, MOST_SIGNS)));
            return row >> left << left;
        }

        /** Turn k of a word, k from 0 to its length. */
        static long turned(long word, int k) {
            int behind = length(word) - k;
            long letters = (word << SIGN_BITS * k) & ((1L << ALL_BITS) - 1);
            return put(letters, behind, MARK) | (head(word, k) >> SIGN_BITS * (behind + 1));
        }

        /** The least number above all rows that begin with these signs; no row has more than 8. */
        static long above(long row, int signs) {
            return isPlace(signs - 1) ? row + (1L << shiftOf(signs - 1)) : row;
        }

        static int placesOf(long row, int letter) {
            int code = codeOf(letter);
            int places = 0;
            for (int place = 0; place < MOST_SIGNS; place++) {
                if (codeAt(row, place) == code) {
                    places |= 1 << place;
                }
            }
            return places;
        }

        static boolean areNear(long one, long other) {
            int others = 0;
            for (int place = 0; place < MOST_SIGNS; place++) {
                if (codeAt(one, place) != codeAt(other, place)) {
                    others++;
                }
            }
            return others == 1 && length(one) == length(other);
        }
    }

    /** Sets of word numbers, as bits of a long. */
    private static final class Bits {

        private Bits() {
        }

        static long bit(int number) {
            return number < 0 || number >= MOST_WORDS ? 0 : 1L << number;
        }

        static boolean has(long set, int number) {
            return (set & bit(number)) != 0;
        }

        /** The k-th number of a set, rising. */
        static int numberOf(long set, int k) {
            int ahead = 0;
            for (int number = 0; number < MOST_WORDS; number++) {
                if (has(set, number)) {
                    if (ahead == k) {
                        return number;
                    }
                    ahead++;
                }
            }
            return NONE;
        }
    }

    /** Numbers in rising order, no two alike. */
    private static final class Rising {
        private static final int FIRST_STEP = 256;

        private final long[] rows;
        private int size;

        Rising(int most) {
            rows = new long[Math.max(0, Math.min(most, MOST_TURNS))];
        }

        int size() {
            return size;
        }

        boolean hasNumber(int number) {
            return number >= 0 && number < size;
        }

        long at(int number) {
            return hasNumber(number) ? rows[number] : Row.EMPTY;
        }

        /** How many are below it: steps of halving length, the first one more than half of all. */
        int below(long row) {
            int below = 0;
            for (int step = FIRST_STEP; step > 0; step >>= 1) {
                int next = below + step;
                if (next <= size && rows[next - 1] < row) {
                    below = next;
                }
            }
            return below;
        }

        private boolean isAt(int place, long row) {
            return place < size && rows[place] == row;
        }

        boolean add(long row) {
            int place = below(row);
            if (size >= rows.length || isAt(place, row)) {
                return false;
            }
            System.arraycopy(rows, place, rows, place + 1, size - place);
            rows[place] = row;
            size++;
            return true;
        }

        boolean drop(long row) {
            int place = below(row);
            if (!isAt(place, row)) {
                return false;
            }
            size--;
            System.arraycopy(rows, place + 1, rows, place, size - place);
            return true;
        }

        void clear() {
            size = 0;
        }

        void copy(Rising other) {
            size = Math.min(other.size, rows.length);
            System.arraycopy(other.rows, 0, rows, 0, size);
        }
    }

    /** All turns of a dictionary, in order. */
    private static final class Index {
        private static final int WORD_SHIFT = 3;
        private static final int SIGNS_SHIFT = 9;
        private static final int NUMBER_BITS = 7;
        private static final int WORD_BITS = 63;

        /** The signs highest, then the word, then k: no two turns have the same signs. */
        private final Rising turns;

        Index() {
            turns = new Rising(MOST_TURNS);
        }

        void lay(Rising words) {
            turns.clear();
            for (int w = 0; w < words.size(); w++) {
                long word = words.at(w);
                int length = Row.length(word);
                for (int k = 0; k <= length; k++) {
                    turns.add(keyOf(Row.turned(word, k), w, k));
                }
            }
        }

        private static long keyOf(long signs, int word, int k) {
            return (signs << SIGNS_SHIFT) | ((long) word << WORD_SHIFT) | k;
        }

        int size() {
            return turns.size();
        }

        long signsAt(int turn) {
            return turns.at(turn) >> SIGNS_SHIFT;
        }

        int wordAt(int turn) {
            return (int) (turns.at(turn) >> WORD_SHIFT) & WORD_BITS;
        }

        int numberAt(int turn) {
            return (int) turns.at(turn) & NUMBER_BITS;
        }

        /** The number of the first turn that is not ahead of a row. */
        int from(long row) {
            return turns.below(row << SIGNS_SHIFT);
        }

        /** The number behind the last turn that begins with a row of so many signs. */
        int to(long row, int signs) {
            return from(Row.above(row, signs));
        }

        long wordsThatTurnTo(long row, int signs) {
            long words = 0;
            int to = to(row, signs);
            for (int turn = from(row); turn < to; turn++) {
                words |= Bits.bit(wordAt(turn));
            }
            return words;
        }

        /** Where turn k of a word of the dictionary stands. */
        int placeOf(long word, int k) {
            return from(Row.turned(word, k));
        }

        /** The least k of a word's turns whose first signs, so many, begin no other word's turn. */
        int firstAlone(long word, int signs) {
            int length = Row.length(word);
            if (signs > length + 1) {
                return NONE;
            }
            for (int k = 0; k <= length; k++) {
                long head = Row.head(Row.turned(word, k), signs);
                // one of them is the word's own
                if (Long.bitCount(wordsThatTurnTo(head, signs)) == 1) {
                    return k;
                }
            }
            return NONE;
        }

        /** A turn's signs tell its word, so those in both are the turns of words that stay. */
        static int moved(Index before, Index after) {
            int moved = 0;
            int there = 0;
            for (int here = 0; here < before.size(); here++) {
                long signs = before.signsAt(here);
                while (there < after.size() && after.signsAt(there) < signs) {
                    there++;
                }
                if (there < after.size() && after.signsAt(there) == signs && there != here) {
                    moved++;
                }
            }
            return moved;
        }
    }

    /** One to twelve of letters, ? and *. */
    private static final class Pattern {
        private final int[] signs;
        private int size;

        Pattern() {
            signs = new int[PATTERN_SIGNS];
            signs[0] = STAR;
            size = 1;
        }

        static boolean isSign(int sign) {
            return isLetter(sign) || sign == ANY_LETTER || sign == STAR;
        }

        int size() {
            return size;
        }

        boolean hasPlace(int place) {
            return place >= 0 && place < size;
        }

        int at(int place) {
            return hasPlace(place) ? signs[place] : NONE;
        }

        void put(int place, int sign) {
            if (hasPlace(place)) {
                signs[place] = sign;
            }
        }

        void take(Tape tape) {
            size = Math.min(tape.size(), PATTERN_SIGNS);
            for (int i = 0; i < size; i++) {
                signs[i] = tape.at(i);
            }
        }

        void copy(Pattern other) {
            size = other.size;
            System.arraycopy(other.signs, 0, signs, 0, size);
        }

        /** Bit i of made: the signs so far can make the first i letters of the word. */
        boolean isMetBy(long word) {
            int whole = 1 << Row.length(word);
            int made = 1;
            for (int i = 0; i < size && made != 0; i++) {
                made = madeWith(made, signs[i], word) & (2 * whole - 1);
            }
            return (made & whole) != 0;
        }

        private static int madeWith(int made, int sign, long word) {
            if (sign == STAR) {
                // all from the lowest one on
                return made | -made;
            }
            return (sign == ANY_LETTER ? made : made & Row.placesOf(word, sign)) << 1;
        }
    }

    /** The pieces and runs of a pattern. */
    private static final class Cut {
        private final int[] signs;
        private final int[] starts;
        private final int[] lengths;
        private final int[] piecesOfRuns;
        private final long[] heads;
        private int size;
        private int runs;
        private int pieces;
        private boolean inRun;

        Cut() {
            signs = new int[CUT_SIGNS];
            starts = new int[CUT_SIGNS];
            lengths = new int[CUT_SIGNS];
            piecesOfRuns = new int[CUT_SIGNS];
            heads = new long[CUT_SIGNS];
        }

        void lay(Pattern pattern) {
            size = 0;
            runs = 0;
            pieces = 0;
            // without a star both are NONE: then all is behind the last, nothing ahead of the first
            int first = firstStar(pattern);
            int last = lastStar(pattern);
            beginPiece();
            layPart(pattern, last + 1, pattern.size());
            laySign(MARK);
            layPart(pattern, 0, first);
            layBetween(pattern, first, last);
        }

        private static int firstStar(Pattern pattern) {
            for (int i = 0; i < pattern.size(); i++) {
                if (pattern.at(i) == STAR) {
                    return i;
                }
            }
            return NONE;
        }

        private static int lastStar(Pattern pattern) {
            for (int i = pattern.size() - 1; i >= 0; i--) {
                if (pattern.at(i) == STAR) {
                    return i;
                }
            }
            return NONE;
        }

        private void layPart(Pattern pattern, int from, int to) {
            for (int i = from; i < to; i++) {
                laySign(pattern.at(i));
            }
        }

        private void layBetween(Pattern pattern, int first, int last) {
            for (int i = first + 1; i < last; i++) {
                int sign = pattern.at(i);
                if (sign != STAR) {
                    if (pattern.at(i - 1) == STAR) {
                        beginPiece();
                    }
                    laySign(sign);
                }
            }
        }

        private void beginPiece() {
            pieces++;
            inRun = false;
        }

        private void laySign(int sign) {
            if (sign == ANY_LETTER) {
                inRun = false;
                return;
            }
            if (size >= CUT_SIGNS) {
                return;
            }
            if (!inRun) {
                beginRun();
            }
            int run = runs - 1;
            signs[size] = sign;
            size++;
            heads[run] = Row.put(heads[run], lengths[run], sign);
            lengths[run]++;
        }

        /** Called with a sign to come and room for it, so there is room for its run. */
        private void beginRun() {
            starts[runs] = size;
            lengths[runs] = 0;
            piecesOfRuns[runs] = pieces - 1;
            heads[runs] = Row.EMPTY;
            runs++;
            inRun = true;
        }

        int pieces() {
            return pieces;
        }

        int runs() {
            return runs;
        }

        boolean hasRun(int run) {
            return run >= 0 && run < runs;
        }

        int lengthOf(int run) {
            return hasRun(run) ? lengths[run] : 0;
        }

        int pieceOf(int run) {
            return hasRun(run) ? piecesOfRuns[run] : NONE;
        }

        /** Its first 8 signs: no turn begins with more. */
        long headOf(int run) {
            return hasRun(run) ? heads[run] : Row.EMPTY;
        }

        int signOf(int run, int i) {
            return i < 0 || i >= lengthOf(run) ? NONE : signs[starts[run] + i];
        }
    }

    /** The dictionaries ahead of the latest merges, the latest last. */
    private static final class Merges {
        private final Rising[] before;
        private int size;

        Merges() {
            before = new Rising[MOST_UNDONE];
            for (int i = 0; i < MOST_UNDONE; i++) {
                before[i] = new Rising(MOST_WORDS);
            }
        }

        int size() {
            return size;
        }

        void clear() {
            size = 0;
        }

        void keep(Rising dictionary) {
            if (size >= MOST_UNDONE) {
                forgetOldest();
            }
            before[size].copy(dictionary);
            size++;
        }

        private void forgetOldest() {
            Rising oldest = before[0];
            for (int i = 1; i < MOST_UNDONE; i++) {
                before[i - 1] = before[i];
            }
            before[MOST_UNDONE - 1] = oldest;
            size = MOST_UNDONE - 1;
        }

        Rising takeLatest() {
            size = Math.max(size - 1, 0);
            return before[size];
        }
    }
}
