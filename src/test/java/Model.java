import java.util.ArrayDeque;
import java.util.ArrayList;
import java.util.Collection;
import java.util.Deque;
import java.util.List;
import java.util.TreeMap;
import java.util.TreeSet;
import java.util.regex.Matcher;
import java.util.regex.Pattern;

/** The document once more, by texts and sets and with no thought of speed, to compare with. */
final class Model {
    private StringBuilder tape = new StringBuilder();
    private TreeSet<String> dictionary = new TreeSet<>();
    private List<String> batch = new ArrayList<>();
    private String pattern = "*";
    private int fault = 0;
    private int place = -1;
    private final Deque<TreeSet<String>> undoable = new ArrayDeque<>();
    private final Model[] images = new Model[3];

    int feed(int... numbers) {
        if (tape.length() > 380) {
            return -1;
        }
        for (int number : numbers) {
            tape.append((char) (number >>> 24)).append((char) (number >>> 16 & 255));
            tape.append((char) (number >>> 8 & 255)).append((char) (number & 255));
        }
        return tape.length();
    }

    int end(int n) {
        if (n < 0 || n > tape.length()) {
            return -1;
        }
        tape.setLength(n);
        return n;
    }

    private String taken() {
        String text = tape.toString();
        tape = new StringBuilder();
        return text;
    }

    int words() {
        String text = taken();
        TreeMap<Integer, Integer> faults = new TreeMap<>();
        for (int i = 0; i < text.length(); i++) {
            if (!text.substring(i, i + 1).matches("[a-z\n ]")) {
                faults.putIfAbsent(i, 1);
            }
        }
        List<String> found = new ArrayList<>();
        Matcher rows = Pattern.compile("[a-z]+").matcher(text);
        while (rows.find()) {
            if (rows.group().length() > 7) {
                faults.putIfAbsent(rows.start() + 7, 2);
            } else {
                if (found.size() >= 40) {
                    faults.putIfAbsent(rows.start(), 4);
                } else if (found.contains(rows.group())) {
                    faults.putIfAbsent(rows.start(), 3);
                }
                found.add(rows.group());
            }
        }
        fault = faults.isEmpty() ? 0 : faults.firstEntry().getValue();
        place = faults.isEmpty() ? -1 : faults.firstKey();
        if (fault != 0) {
            return -1;
        }
        dictionary = new TreeSet<>(found);
        batch.clear();
        undoable.clear();
        return dictionary.size();
    }

    int pattern() {
        String text = taken();
        String bad = text.replaceAll("[a-z?*]", "a").replaceAll("[^a]", "!");
        int first = bad.indexOf('!');
        fault = text.isEmpty() ? 6 : first >= 0 && first < 12 ? 1 : text.length() > 12 ? 5 : 0;
        place = fault == 6 ? 0 : fault == 1 ? first : fault == 5 ? 12 : -1;
        if (fault != 0) {
            return -1;
        }
        pattern = text;
        return pieces().size();
    }

    int fault(int what) {
        return what == 0 ? fault : what == 1 ? place : -1;
    }

    private TreeSet<String> coming() {
        TreeSet<String> coming = new TreeSet<>(dictionary);
        for (String edit : batch) {
            if (edit.startsWith("-")) {
                coming.remove(edit.substring(1));
            } else {
                coming.add(edit);
            }
        }
        return coming;
    }

    int edit(boolean off) {
        String word = taken();
        TreeSet<String> coming = coming();
        if (!word.matches("[a-z]{1,7}") || word.endsWith("\n") || batch.size() == 12
                || coming.contains(word) != off || !off && coming.size() == 40) {
            return -1;
        }
        batch.add(off ? "-" + word : word);
        return batch.size();
    }

    int cancel() {
        int had = batch.size();
        batch.clear();
        return had;
    }

    int merge() {
        if (batch.isEmpty()) {
            return 0;
        }
        List<String> before = index();
        undoable.addLast(dictionary);
        if (undoable.size() > 4) {
            undoable.removeFirst();
        }
        dictionary = coming();
        batch.clear();
        List<String> after = index();
        int moved = 0;
        for (String turn : before) {
            if (after.contains(turn) && after.indexOf(turn) != before.indexOf(turn)) {
                moved++;
            }
        }
        return moved;
    }

    int undo() {
        if (undoable.isEmpty()) {
            return -1;
        }
        dictionary = undoable.removeLast();
        batch.clear();
        return undoable.size();
    }

    private static String turned(String word, int k) {
        return word.substring(k) + "$" + word.substring(0, k);
    }

    private static String wordOf(String turn) {
        int mark = turn.indexOf('$');
        return turn.substring(mark + 1) + turn.substring(0, mark);
    }

    private List<String> index() {
        List<String> turns = new ArrayList<>();
        for (String word : dictionary) {
            for (int k = 0; k <= word.length(); k++) {
                turns.add(turned(word, k));
            }
        }
        turns.sort(null);
        return turns;
    }

    private static List<String> answers(Collection<String> words, String pattern) {
        String regex = pattern.replace("?", "[a-z]").replace("*", "[a-z]*");
        List<String> answers = new ArrayList<>();
        for (String word : words) {
            if (word.matches(regex)) {
                answers.add(word);
            }
        }
        return answers;
    }

    private List<String> pieces() {
        List<String> pieces = new ArrayList<>();
        if (!pattern.contains("*")) {
            pieces.add(pattern + "$");
            return pieces;
        }
        String[] parts = pattern.split("\\*", -1);
        pieces.add(parts[parts.length - 1] + "$" + parts[0]);
        for (int i = 1; i < parts.length - 1; i++) {
            if (!parts[i].isEmpty()) {
                pieces.add(parts[i]);
            }
        }
        return pieces;
    }

    /** Each run with its piece's number ahead: "0:a$". */
    private List<String> runs() {
        List<String> runs = new ArrayList<>();
        List<String> pieces = pieces();
        for (int i = 0; i < pieces.size(); i++) {
            for (String row : pieces.get(i).split("\\?")) {
                if (!row.isEmpty()) {
                    runs.add(i + ":" + row);
                }
            }
        }
        return runs;
    }

    private static String signs(String run) {
        return run.substring(run.indexOf(':') + 1);
    }

    private List<String> range(String signs) {
        List<String> range = new ArrayList<>();
        for (String turn : index()) {
            if (turn.startsWith(signs)) {
                range.add(turn);
            }
        }
        return range;
    }

    private TreeSet<String> wordsOf(String signs) {
        TreeSet<String> words = new TreeSet<>();
        for (String turn : range(signs)) {
            words.add(wordOf(turn));
        }
        return words;
    }

    private TreeSet<String> sharedWords() {
        TreeSet<String> shared = new TreeSet<>(dictionary);
        for (String run : runs()) {
            shared.retainAll(wordsOf(signs(run)));
        }
        return shared;
    }

    private int number(String word) {
        return dictionary.headSet(word).size();
    }

    private static String kth(Collection<String> words, int k) {
        return k < 0 || k >= words.size() ? null : new ArrayList<>(words).get(k);
    }

    private int numberOfKth(Collection<String> words, int k) {
        String word = kth(words, k);
        return word == null ? -1 : number(word);
    }

    int count(int what) {
        List<String> answers = answers(dictionary, pattern);
        switch (what) {
            case 0: return dictionary.size();
            case 1: return index().size();
            case 2: return batch.size();
            case 3: return coming().size();
            case 4: return answers.size();
            case 5: return answers(coming(), pattern).size();
            case 6: return pieces().size();
            case 7: return runs().size();
            case 8: return longest();
            case 9: return narrowest();
            case 10: return sharedWords().size();
            case 11: return stem(answers);
            case 12: return ask(answers);
            case 13: return undoable.size();
            case 14: return tape.length();
            case 15: return String.join("", dictionary).length();
            case 16: return beginAlone();
            default: return -1;
        }
    }

    private int longest() {
        int best = 0;
        List<String> runs = runs();
        for (int i = 0; i < runs.size(); i++) {
            if (signs(runs.get(i)).length() > signs(runs.get(best)).length()) {
                best = i;
            }
        }
        return best;
    }

    private int narrowest() {
        int best = 0;
        List<String> runs = runs();
        for (int i = 0; i < runs.size(); i++) {
            if (range(signs(runs.get(i))).size() < range(signs(runs.get(best))).size()) {
                best = i;
            }
        }
        return best;
    }

    private static int stem(List<String> answers) {
        if (answers.isEmpty()) {
            return 0;
        }
        String stem = answers.get(0);
        for (String answer : answers) {
            while (!answer.startsWith(stem)) {
                stem = stem.substring(0, stem.length() - 1);
            }
        }
        return stem.length();
    }

    private static int ask(List<String> answers) {
        int best = -1;
        int fewest = 1000;
        for (int i = 0; i < 7 && !answers.isEmpty(); i++) {
            TreeMap<String, Integer> groups = new TreeMap<>();
            int most = 0;
            for (String answer : answers) {
                String letter = i < answer.length() ? answer.substring(i, i + 1) : "";
                most = Math.max(most, groups.merge(letter, 1, Integer::sum));
            }
            if (most < fewest) {
                fewest = most;
                best = i;
            }
        }
        return best;
    }

    private int beginAlone() {
        int alone = 0;
        for (String word : dictionary) {
            int alike = 0;
            for (String other : dictionary) {
                alike += other.charAt(0) == word.charAt(0) ? 1 : 0;
            }
            alone += alike == 1 ? 1 : 0;
        }
        return alone;
    }

    int word(int number, boolean coming, int what) {
        String word = kth(coming ? coming() : dictionary, number);
        if (word == null) {
            return -1;
        }
        if (what == 10) {
            return answers(List.of(word), pattern).size();
        }
        if (what == 0) {
            return word.length();
        }
        return what >= 1 && what <= word.length() ? word.charAt(what - 1) : -1;
    }

    int answer(int k, boolean coming) {
        TreeSet<String> words = coming ? coming() : dictionary;
        String answer = kth(answers(words, pattern), k);
        return answer == null ? -1 : words.headSet(answer).size();
    }

    int turn(int number, int what) {
        String turn = kth(index(), number);
        if (turn == null) {
            return -1;
        }
        if (what == 0) {
            return number(wordOf(turn));
        }
        if (what == 1) {
            return turn.length() - 1 - turn.indexOf('$');
        }
        return what >= 2 && what < 2 + turn.length() ? turn.charAt(what - 2) : -1;
    }

    int run(int number, int what) {
        String run = kth(runs(), number);
        if (run == null) {
            return -1;
        }
        String signs = signs(run);
        List<String> range = range(signs);
        switch (what) {
            case 0: return signs.length();
            case 1: return Integer.parseInt(run.substring(0, run.indexOf(':')));
            case 2: return range.isEmpty() ? -1 : index().indexOf(range.get(0));
            case 3: return range.size();
            case 4: return wordsOf(signs).size();
            default: return what >= 5 && what - 5 < signs.length() ? signs.charAt(what - 5) : -1;
        }
    }

    int of(int number, int k) {
        String run = kth(runs(), number);
        return run == null ? -1 : numberOfKth(wordsOf(signs(run)), k);
    }

    int shared(int k) {
        return numberOfKth(sharedWords(), k);
    }

    int alone(int number, int what) {
        String word = kth(dictionary, number);
        if (word == null || what < 0 || what > 2) {
            return -1;
        }
        for (int signs = 1; signs <= 8; signs++) {
            for (int k = 0; k <= word.length() && signs <= word.length() + 1; k++) {
                String turn = turned(word, k);
                if (wordsOf(turn.substring(0, signs)).size() == 1) {
                    return what == 0 ? signs : what == 1 ? k : index().indexOf(turn);
                }
            }
        }
        return -2;
    }

    int near(int number, int k) {
        String word = kth(dictionary, number);
        if (word == null) {
            return -2;
        }
        TreeSet<String> near = new TreeSet<>();
        for (int i = 0; i < word.length(); i++) {
            near.addAll(answers(dictionary, word.substring(0, i) + "?" + word.substring(i + 1)));
        }
        near.remove(word);
        int found = numberOfKth(near, k);
        return k == -1 ? near.size() : found == -1 ? -2 : found;
    }

    int tally(int n, boolean turned) {
        if (turned) {
            return n < 97 || n > 122 ? -1 : answers(dictionary, "*" + (char) n + "*").size();
        }
        return n < 1 || n > 7 ? -1 : answers(dictionary, "?".repeat(n)).size();
    }

    int places(int number, int letter) {
        String word = kth(dictionary, number);
        if (word == null || letter < 97 || letter > 122) {
            return -1;
        }
        int bits = 0;
        for (int i = 0; i < word.length(); i++) {
            bits += word.charAt(i) == letter ? 1 << i : 0;
        }
        return bits;
    }

    int instead(int i, int sign) {
        boolean isSign = sign >= 97 && sign <= 122 || sign == 42 || sign == 63;
        if (i < 0 || i >= pattern.length() || !isSign) {
            return -1;
        }
        String other = pattern.substring(0, i) + (char) sign + pattern.substring(i + 1);
        return answers(dictionary, other).size();
    }

    private void copy(Model other) {
        tape = new StringBuilder(other.tape);
        dictionary = new TreeSet<>(other.dictionary);
        batch = new ArrayList<>(other.batch);
        pattern = other.pattern;
        fault = other.fault;
        place = other.place;
    }

    boolean image(int k) {
        if (k < 0 || k > 2) {
            return false;
        }
        images[k] = new Model();
        images[k].copy(this);
        return true;
    }

    boolean again(int k) {
        if (k < 0 || k > 2 || images[k] == null) {
            return false;
        }
        copy(images[k]);
        undoable.clear();
        return true;
    }
}
