import java.math.BigInteger;
import java.util.ArrayList;
import java.util.HashMap;
import java.util.List;
import java.util.Map;
import java.util.NoSuchElementException;
import java.util.Random;
import java.util.TreeSet;

/**
 * Runs of seeded calls on ConcordDesk and on a second desk that is written down sentence by sentence from the document,
 * with no thought of speed: both have to answer the same.
 */
public final class ModelTest {
    private static int calls = 0;
    private static int wrong = 0;

    interface Call {
        Object on();
    }

    public static void main(String[] args) {
        for (int seed = 0; seed < 2000; seed++) {
            new Run(seed, seed % 7).go();
        }
        System.out.println(calls + " calls, " + wrong + " answers are not as due");
        if (wrong != 0 || calls < 100000) {
            System.exit(1);
        }
    }

    static Object answer(Call call) {
        try {
            return call.on();
        } catch (IllegalStateException | IllegalArgumentException | NoSuchElementException
                | UnsupportedOperationException e) {
            return "throws " + e.getClass().getSimpleName();
        } catch (IndexOutOfBoundsException | ArithmeticException e) {
            return "throws " + e.getClass().getSimpleName();
        }
    }

    /** The second desk. */
    static final class Model {
        record Root(int kind, int group, int gender, String word) { }

        record Reading(int root, int number, int form) {
            int told() {
                return 10 * root + 3 * number + form;
            }
        }

        record Cut(int ahead, int kind) { }

        record Rule(int makes, int first, int second, int agree, boolean isSecond, int weight) { }

        record Top(int category, int gender, int number, int form) { }

        record Trees(BigInteger count, int least) { }

        final List<Root> roots = new ArrayList<>();
        final Map<List<Integer>, String> endings = new HashMap<>();
        final Map<Integer, int[]> seams = new HashMap<>();
        final List<Cut> cuts = new ArrayList<>();
        final List<Rule> rules = new ArrayList<>();
        final List<Integer> text = new ArrayList<>();

        static boolean isWord(int number, int most) {
            return ("" + number).matches("[1-8]{1," + most + "}");
        }

        static void illegalIf(boolean is) {
            if (is) {
                throw new IllegalArgumentException();
            }
        }

        static void outsideIf(boolean is) {
            if (is) {
                throw new IndexOutOfBoundsException();
            }
        }

        static void stateIf(boolean is) {
            if (is) {
                throw new IllegalStateException();
            }
        }

        static void noneIf(boolean is) {
            if (is) {
                throw new NoSuchElementException();
            }
        }

        static boolean isOut(int number, int from, int to) {
            return number < from || number > to;
        }

        int addRoot(int kind, int group, int gender, int word) {
            illegalIf(isOut(kind, 0, 2) || isOut(group, 0, 3) || isOut(gender, 0, 2) || !isWord(word, 4));
            stateIf(roots.size() == 10);
            roots.add(new Root(kind, group, gender, "" + word));
            return roots.size() - 1;
        }

        int setEnding(int group, int number, int form, int ending) {
            illegalIf(isOut(group, 0, 3) || isOut(number, 0, 1) || isOut(form, 0, 2));
            illegalIf(ending != -1 && ending != 0 && !isWord(ending, 2));
            String before = endings.remove(List.of(group, number, form));
            if (ending != -1) {
                endings.put(List.of(group, number, form), ending == 0 ? "" : "" + ending);
            }
            return before == null ? -1 : before.isEmpty() ? 0 : Integer.parseInt(before);
        }

        int setSeam(int group, int last, int becomes) {
            illegalIf(isOut(group, 0, 3) || isOut(last, 0, 8) || last != 0 && isOut(becomes, 0, 8));
            int[] before = seams.remove(group);
            if (last != 0) {
                seams.put(group, new int[] {last, becomes});
            }
            return before == null ? 0 : before[0];
        }

        String formOf(int root, int number, int form) {
            Root it = roots.get(root);
            String ending = endings.get(List.of(it.group, number, form));
            if (ending == null) {
                return null;
            }
            String stem = it.word;
            int[] seam = seams.get(it.group);
            if (seam != null && stem.length() > 1 && stem.endsWith("" + seam[0]) && !ending.isEmpty()) {
                stem = stem.substring(0, stem.length() - 1) + (seam[1] == 0 ? "" : seam[1]);
            }
            return stem + ending;
        }

        int form(int root, int number, int form) {
            outsideIf(isOut(root, 0, roots.size() - 1));
            illegalIf(isOut(number, 0, 1) || isOut(form, 0, 2));
            noneIf(formOf(root, number, form) == null);
            return Integer.parseInt(formOf(root, number, form));
        }

        List<Reading> readingsOf(int word) {
            List<Reading> all = new ArrayList<>();
            for (int root = 0; root < roots.size(); root++) {
                for (int number = 0; number < 2; number++) {
                    for (int form = 0; form < 3; form++) {
                        if (("" + word).equals(formOf(root, number, form))) {
                            all.add(new Reading(root, number, form));
                        }
                    }
                }
            }
            return all;
        }

        int readings(int word) {
            illegalIf(!isWord(word, 7));
            return readingsOf(word).size();
        }

        int reading(int word, int index) {
            illegalIf(!isWord(word, 7));
            outsideIf(isOut(index, 0, readingsOf(word).size() - 1));
            return readingsOf(word).get(index).told();
        }

        int guess(int word) {
            illegalIf(!isWord(word, 7));
            stateIf(!readingsOf(word).isEmpty());
            int longest = 0;
            int told = -1;
            for (int group = 0; group < 4; group++) {
                for (int number = 0; number < 2; number++) {
                    for (int form = 0; form < 3; form++) {
                        String ending = endings.get(List.of(group, number, form));
                        if (ending != null && ending.length() > longest && ("" + word).endsWith(ending)
                                && ending.length() < ("" + word).length()) {
                            longest = ending.length();
                            told = 10 * group + 3 * number + form;
                        }
                    }
                }
            }
            noneIf(told < 0);
            return told;
        }

        /** By all ways to begin, without a table: the first letters are used up, then the rest. */
        static int costOf(String first, String second) {
            if (first.isEmpty() || second.isEmpty()) {
                return 2 * (first.length() + second.length());
            }
            if (first.charAt(0) == second.charAt(0)) {
                // Equal first letters never cost more if they are left alone, but for the neighbours below.
                int same = costOf(first.substring(1), second.substring(1));
                return Math.min(same, change(first, second));
            }
            int least = 2 + costOf(first.substring(1), second);
            least = Math.min(least, 2 + costOf(first, second.substring(1)));
            int apart = Math.abs(first.charAt(0) - second.charAt(0));
            least = Math.min(least, (apart == 1 ? 1 : 2) + costOf(first.substring(1), second.substring(1)));
            return Math.min(least, change(first, second));
        }

        static int change(String first, String second) {
            boolean isSo = first.length() > 1 && second.length() > 1 && first.charAt(0) == second.charAt(1)
                    && first.charAt(1) == second.charAt(0);
            return isSo ? 1 + costOf(first.substring(2), second.substring(2)) : 99;
        }

        int cost(int first, int second) {
            illegalIf(!isWord(first, 7) || !isWord(second, 7));
            return costOf("" + first, "" + second);
        }

        TreeSet<Integer> known() {
            TreeSet<Integer> all = new TreeSet<>();
            for (int root = 0; root < roots.size(); root++) {
                all.addAll(formsOf(root));
            }
            return all;
        }

        TreeSet<Integer> formsOf(int root) {
            TreeSet<Integer> all = new TreeSet<>();
            for (int cell = 0; cell < 6; cell++) {
                String form = formOf(root, cell / 3, cell % 3);
                if (form != null) {
                    all.add(Integer.parseInt(form));
                }
            }
            return all;
        }

        List<Integer> suggestionsFor(int word) {
            List<int[]> found = new ArrayList<>();
            for (int other : known()) {
                // A letter more costs 2, so with two more there is no need for the slow way.
                boolean isFar = Math.abs(("" + other).length() - ("" + word).length()) > 1;
                int cost = isFar ? 4 : costOf(word + "", other + "");
                if (other != word && cost <= 3) {
                    found.add(new int[] {cost, other});
                }
            }
            found.sort((a, b) -> a[0] != b[0] ? a[0] - b[0] : a[1] - b[1]);
            List<Integer> words = new ArrayList<>();
            for (int i = 0; i < found.size() && i < 5; i++) {
                words.add(found.get(i)[1]);
            }
            return words;
        }

        int suggestions(int word) {
            illegalIf(!isWord(word, 7));
            return suggestionsFor(word).size();
        }

        int suggestion(int word, int index) {
            illegalIf(!isWord(word, 7));
            List<Integer> all = suggestionsFor(word);
            outsideIf(isOut(index, 0, all.size() - 1));
            return all.get(index);
        }

        int insert(int place, int token) {
            outsideIf(isOut(place, 0, text.size()));
            illegalIf(token != 0 && !isWord(token, 7));
            stateIf(text.size() == 10);
            text.add(place, token);
            return text.size();
        }

        int remove(int place) {
            outsideIf(isOut(place, 0, text.size() - 1));
            return text.remove(place);
        }

        int replace(int place, int token) {
            outsideIf(isOut(place, 0, text.size() - 1));
            illegalIf(token != 0 && !isWord(token, 7));
            return text.set(place, token);
        }

        int tokens() {
            return text.size();
        }

        int token(int place) {
            outsideIf(isOut(place, 0, text.size() - 1));
            return text.get(place);
        }

        /** Each sentence as its places. */
        static List<List<Integer>> split(List<Integer> text) {
            List<List<Integer>> all = new ArrayList<>();
            List<Integer> now = new ArrayList<>();
            for (int place = 0; place <= text.size(); place++) {
                if (place < text.size() && text.get(place) != 0) {
                    now.add(place);
                } else if (!now.isEmpty()) {
                    all.add(now);
                    now = new ArrayList<>();
                }
            }
            return all;
        }

        int sentences() {
            return split(text).size();
        }

        List<Integer> sentence(int sentence) {
            outsideIf(isOut(sentence, 0, sentences() - 1));
            return split(text).get(sentence);
        }

        int from(int sentence) {
            return sentence(sentence).get(0);
        }

        int words(int sentence) {
            return sentence(sentence).size();
        }

        int addCut(int ahead, int kind) {
            illegalIf(isOut(ahead, 0, 2) || isOut(kind, 0, 2));
            stateIf(cuts.size() == 6);
            cuts.add(new Cut(ahead, kind));
            return cuts.size();
        }

        int addRule(int makes, int first, int second, int agree, boolean isSecond) {
            illegalIf(isOut(makes, 3, 7) || isOut(first, 0, 7) || isOut(second, 0, 7) || isOut(agree, 0, 7));
            stateIf(rules.size() == 12);
            rules.add(new Rule(makes, first, second, agree, isSecond, rules.size() + 1));
            return rules.size();
        }

        int kindOf(Reading reading) {
            return roots.get(reading.root).kind;
        }

        List<List<Reading>> leftOf(List<Integer> words) {
            List<List<Reading>> left = new ArrayList<>();
            for (int word : words) {
                left.add(readingsOf(word));
            }
            boolean isTaken = true;
            while (isTaken) {
                isTaken = false;
                for (int i = 1; i < words.size(); i++) {
                    for (Cut cut : cuts) {
                        List<Reading> ahead = left.get(i - 1);
                        boolean isAhead = !ahead.isEmpty() && ahead.stream().allMatch(r -> kindOf(r) == cut.ahead);
                        List<Reading> others = new ArrayList<>(left.get(i));
                        others.removeIf(r -> kindOf(r) == cut.kind);
                        if (isAhead && !others.isEmpty() && others.size() < left.get(i).size()) {
                            left.set(i, others);
                            isTaken = true;
                        }
                    }
                }
            }
            return left;
        }

        static List<Integer> wordsAt(List<Integer> text, List<Integer> places) {
            List<Integer> words = new ArrayList<>();
            for (int place : places) {
                words.add(text.get(place));
            }
            return words;
        }

        List<Integer> allLeft() {
            List<Integer> all = new ArrayList<>();
            for (int i = 0; i < text.size(); i++) {
                all.add(0);
            }
            for (List<Integer> places : split(text)) {
                List<List<Reading>> left = leftOf(wordsAt(text, places));
                for (int i = 0; i < places.size(); i++) {
                    all.set(places.get(i), left.get(i).size());
                }
            }
            return all;
        }

        int left(int place) {
            outsideIf(isOut(place, 0, text.size() - 1));
            return allLeft().get(place);
        }

        static void put(Map<Top, Trees> into, Top top, BigInteger count, int weight) {
            Trees before = into.get(top);
            into.put(top, before == null ? new Trees(count, weight)
                    : new Trees(before.count.add(count), Math.min(before.least, weight)));
        }

        static boolean agree(Top a, Top b, int agree) {
            return ((agree & 1) == 0 || a.gender == b.gender) && ((agree & 2) == 0 || a.number == b.number)
                    && ((agree & 4) == 0 || a.form == b.form);
        }

        /** How many trees there are, and their least weight; null for none. */
        Trees treesOf(List<Integer> words) {
            List<List<Reading>> left = leftOf(words);
            int n = words.size();
            List<Map<Top, Trees>> parts = new ArrayList<>();
            for (int i = 0; i < n * n; i++) {
                parts.add(new HashMap<>());
            }
            for (int length = 1; length <= n; length++) {
                for (int i = 0; i + length <= n; i++) {
                    Map<Top, Trees> whole = parts.get(i * n + i + length - 1);
                    if (length == 1) {
                        for (Reading r : left.get(i)) {
                            Root root = roots.get(r.root);
                            put(whole, new Top(root.kind, root.gender, r.number, r.form), BigInteger.ONE, 0);
                        }
                    }
                    for (int k = i; k < i + length - 1; k++) {
                        join(whole, parts.get(i * n + k), parts.get((k + 1) * n + i + length - 1));
                    }
                }
            }
            Trees all = null;
            for (Map.Entry<Top, Trees> e : parts.get(n - 1).entrySet()) {
                if (e.getKey().category == 7) {
                    Trees more = e.getValue();
                    all = all == null ? more
                            : new Trees(all.count.add(more.count), Math.min(all.least, more.least));
                }
            }
            return all;
        }

        void join(Map<Top, Trees> whole, Map<Top, Trees> firsts, Map<Top, Trees> seconds) {
            for (Map.Entry<Top, Trees> a : firsts.entrySet()) {
                for (Map.Entry<Top, Trees> b : seconds.entrySet()) {
                    for (Rule rule : rules) {
                        if (rule.first == a.getKey().category && rule.second == b.getKey().category
                                && agree(a.getKey(), b.getKey(), rule.agree)) {
                            Top head = rule.isSecond ? b.getKey() : a.getKey();
                            put(whole, new Top(rule.makes, head.gender, head.number, head.form),
                                    a.getValue().count.multiply(b.getValue().count),
                                    a.getValue().least + b.getValue().least + rule.weight);
                        }
                    }
                }
            }
        }

        long trees(int sentence) {
            Trees all = treesOf(wordsAt(text, sentence(sentence)));
            return all == null ? 0 : all.count.longValue();
        }

        long treesAnew(int sentence) {
            if (words(sentence) > 3) {
                throw new UnsupportedOperationException();
            }
            return trees(sentence);
        }

        int best(int sentence) {
            Trees all = treesOf(wordsAt(text, sentence(sentence)));
            noneIf(all == null);
            return all.least;
        }

        int badnessOf(List<Integer> words) {
            int unknown = 0;
            for (int word : words) {
                unknown += readingsOf(word).isEmpty() ? 1 : 0;
            }
            return unknown > 0 ? 2 * unknown : treesOf(words) == null ? 1 : 0;
        }

        char fault(int sentence) {
            int badness = badnessOf(wordsAt(text, sentence(sentence)));
            return badness > 1 ? 'u' : badness == 1 ? 'g' : '-';
        }

        int badness() {
            int sum = 0;
            for (List<Integer> places : split(text)) {
                sum += badnessOf(wordsAt(text, places));
            }
            return sum;
        }

        private List<int[]> foundEdits = null;

        /** Kept until the next call that can change something, only because it is so slow. */
        List<int[]> editsFound() {
            if (foundEdits == null) {
                foundEdits = findEdits();
            }
            return foundEdits;
        }

        void forgetEdits() {
            foundEdits = null;
        }

        List<int[]> findEdits() {
            List<int[]> found = new ArrayList<>();
            for (List<Integer> places : split(text)) {
                List<Integer> words = wordsAt(text, places);
                int badness = badnessOf(words);
                for (int i = 0; i < words.size() && badness > 0 && found.size() < 30; i++) {
                    TreeSet<Integer> tried = new TreeSet<>();
                    if (readingsOf(words.get(i)).isEmpty()) {
                        tried.addAll(suggestionsFor(words.get(i)));
                    } else {
                        readingsOf(words.get(i)).forEach(r -> tried.addAll(formsOf(r.root)));
                        tried.remove(words.get(i));
                    }
                    for (int word : tried) {
                        List<Integer> changed = new ArrayList<>(words);
                        changed.set(i, word);
                        if (badnessOf(changed) < badness) {
                            found.add(new int[] {places.get(i), word});
                        }
                    }
                }
            }
            return found.size() > 30 ? found.subList(0, 30) : found;
        }

        int edits() {
            return editsFound().size();
        }

        int editPlace(int index) {
            outsideIf(isOut(index, 0, edits() - 1));
            return editsFound().get(index)[0];
        }

        int editWord(int index) {
            outsideIf(isOut(index, 0, edits() - 1));
            return editsFound().get(index)[1];
        }

        int apply(int index) {
            outsideIf(isOut(index, 0, edits() - 1));
            int before = badness();
            text.set(editPlace(index), editWord(index));
            return before - badness();
        }

        int wordCount() {
            int count = 0;
            for (int token : text) {
                count += token == 0 ? 0 : 1;
            }
            return count;
        }

        float knownShare() {
            if (wordCount() == 0) {
                throw new ArithmeticException();
            }
            int known = 0;
            for (int token : text) {
                known += token != 0 && !readingsOf(token).isEmpty() ? 1 : 0;
            }
            return (float) known / (float) wordCount();
        }

        double meanLeft() {
            if (wordCount() == 0) {
                throw new ArithmeticException();
            }
            int sum = 0;
            for (int left : allLeft()) {
                sum += left;
            }
            return (double) sum / (double) wordCount();
        }
    }

    /**
     * One run: some calls that set up, then calls of all kinds. Style 0 sets nothing up, 2 has one word with many
     * readings, 4 one gender, 5 and 6 have few unknown words and rules that make many trees.
     */
    static final class Run {
        final int seed;
        final int style;
        final Random random;
        final ConcordDesk desk = new ConcordDesk();
        final Model model = new Model();
        final List<String> told = new ArrayList<>();

        Run(int seed, int style) {
            this.seed = seed;
            this.style = style;
            this.random = new Random(seed);
        }

        int below(int bound) {
            return random.nextInt(bound);
        }

        /** Mostly in range, now and then just outside or far off. */
        int near(int from, int to) {
            if (below(25) == 0) {
                int[] odd = {from - 1, to + 1, Integer.MIN_VALUE, Integer.MAX_VALUE, -7, 100};
                return odd[below(odd.length)];
            }
            return to < from ? from : from + below(to - from + 1);
        }

        int letters(int least, int most, int alphabet) {
            int word = 0;
            for (int i = least + below(most - least + 1); i > 0; i--) {
                word = 10 * word + 1 + below(alphabet);
            }
            return word;
        }

        int word() {
            if (below(40) == 0) {
                int[] odd = {0, -1, 9, 10, 19, 101, 12345678, 8888888, 11111111, 88888889, Integer.MIN_VALUE,
                    Integer.MAX_VALUE, -12, 1111111, 1234567, 90};
                return odd[below(odd.length)];
            }
            List<Integer> known = new ArrayList<>(model.known());
            boolean isTidy = style == 2 || style > 4;
            if (!known.isEmpty() && below(isTidy ? 30 : 5) > 0) {
                int one = known.get(below(known.size()));
                return below(isTidy ? 20 : 4) > 0 ? one : mistaken("" + one);
            }
            return letters(1, below(6) == 0 ? 7 : 4, below(3) == 0 ? 8 : 3);
        }

        int mistaken(String word) {
            StringBuilder letters = new StringBuilder(word);
            int at = below(letters.length());
            switch (below(4)) {
                case 0 -> letters.insert(at, (char) ('1' + below(8)));
                case 1 -> letters.deleteCharAt(letters.length() > 1 ? at : 0);
                case 2 -> letters.setCharAt(at, (char) ('1' + below(8)));
                default -> letters.append(letters.charAt(at)).deleteCharAt(at);
            }
            return letters.isEmpty() ? 1 : Integer.parseInt(letters.toString());
        }

        int someToken() {
            return below(8) == 0 ? 0 : word();
        }

        /** Behind 512 calls all answers are free. */
        void check(String call, Call real, Call due) {
            if (told.size() == 512) {
                return;
            }
            calls++;
            Object got = answer(real);
            Object want = answer(due);
            told.add(call + " -> " + want);
            if (!got.equals(want)) {
                wrong++;
                System.out.println("seed " + seed + ": " + call + " answered " + got + ", due is " + want);
                if (wrong <= 3) {
                    System.out.println("  behind " + told);
                }
            }
        }

        void change(String call, Call real, Call due) {
            check(call, real, () -> {
                Object answer = due.on();
                model.forgetEdits();
                return answer;
            });
        }

        void go() {
            setUp();
            int steps = style == 2 ? 10 : 150;
            for (int i = 0; i < steps && wrong < 20; i++) {
                step();
            }
            askAll();
        }

        void setUp() {
            int groups = style == 2 ? 1 : 1 + below(4);
            int roots = style == 0 ? 0 : style == 2 ? 8 + below(3) : 3 + below(5);
            for (int group = 0; group < groups && style > 0; group++) {
                for (int cell = 0; cell < 6; cell++) {
                    if (below(4) > 0 || style == 2) {
                        boolean isEmpty = style == 2 || below(3) == 0;
                        setEnding(group, cell / 3, cell % 3, isEmpty ? 0 : letters(1, 2, 3));
                    }
                }
                if (below(2) == 0) {
                    setSeam(group, 1 + below(3), below(4));
                }
            }
            for (int i = 0; i < roots; i++) {
                addRoot(below(style == 2 ? 1 : 3), below(groups), below(style == 4 ? 1 : 3),
                        style == 2 ? 1 : letters(1, style > 4 ? 2 : 3, 3));
            }
            for (int i = below(7); i < 12 && style > 0; i++) {
                if (style == 2 || style > 4 && below(4) > 0) {
                    fruitfulRule();
                } else {
                    randomRule();
                }
            }
            for (int i = below(6); i < 4 && style > 0; i++) {
                addCut(below(3), below(3));
            }
            for (int i = below(6); i < (style == 2 || style == 5 ? 10 : 7) && style > 0; i++) {
                insert(below(model.tokens() + 1), someToken());
            }
        }

        void randomRule() {
            int[] made = {3, 4, 5, 6, 7, 7, 7, 7};
            int[] parts = {0, 1, 2, 0, 1, 2, 3, 4, 5, 6, 7, 7};
            int agree = below(3) == 0 ? below(8) : below(2) * (1 << below(3));
            addRule(made[below(made.length)], parts[below(parts.length)], parts[below(parts.length)], agree,
                    below(2) == 0);
        }

        void fruitfulRule() {
            int kinds = style == 2 ? 1 : 3;
            int first = below(2) == 0 ? 7 : below(kinds);
            int second = first == 7 && below(4) > 0 ? below(kinds) : below(2) == 0 ? 7 : below(kinds);
            int agree = style == 5 ? 0 : below(style == 2 ? 9 : 2) / (style == 2 ? 8 : 1) * below(8);
            addRule(7, first, second, agree, below(2) == 0);
        }

        void addRoot(int kind, int group, int gender, int word) {
            change("addRoot(" + kind + ", " + group + ", " + gender + ", " + word + ")",
                    () -> desk.addRoot(kind, group, gender, word), () -> model.addRoot(kind, group, gender, word));
        }

        void setEnding(int group, int number, int form, int ending) {
            change("setEnding(" + group + ", " + number + ", " + form + ", " + ending + ")",
                    () -> desk.setEnding(group, number, form, ending),
                    () -> model.setEnding(group, number, form, ending));
        }

        void setSeam(int group, int last, int becomes) {
            change("setSeam(" + group + ", " + last + ", " + becomes + ")",
                    () -> desk.setSeam(group, last, becomes), () -> model.setSeam(group, last, becomes));
        }

        void insert(int place, int token) {
            change("insert(" + place + ", " + token + ")", () -> desk.insert(place, token),
                    () -> model.insert(place, token));
        }

        void addCut(int ahead, int kind) {
            change("addCut(" + ahead + ", " + kind + ")", () -> desk.addCut(ahead, kind),
                    () -> model.addCut(ahead, kind));
        }

        void addRule(int makes, int first, int second, int agree, boolean isSecond) {
            change("addRule(" + makes + ", " + first + ", " + second + ", " + agree + ", " + isSecond + ")",
                    () -> desk.addRule(makes, first, second, agree, isSecond),
                    () -> model.addRule(makes, first, second, agree, isSecond));
        }

        void step() {
            // The tidy styles keep their words known, so they change roots and endings seldom.
            switch (style > 4 && below(10) > 0 ? 3 + below(37) : below(40)) {
                case 0 -> addRoot(near(0, 2), near(0, 3), near(0, 2), below(9) == 0 ? word() : letters(1, 4, 3));
                case 1 -> setEnding(near(0, 3), near(0, 1), near(0, 2), randomEnding());
                case 2 -> setSeam(near(0, 3), near(0, below(2) == 0 ? 3 : 8), near(0, 8));
                case 3 -> addCut(near(0, 2), near(0, 2));
                case 4 -> randomRule();
                case 5 -> addRule(near(3, 7), near(0, 7), near(0, 7), near(0, 7), below(2) == 0);
                case 6, 7, 8, 9 -> insert(near(0, model.tokens()), someToken());
                case 10, 11 -> remove(near(0, model.tokens() - 1));
                case 12, 13, 14, 15 -> replace(near(0, model.tokens() - 1), someToken());
                case 16, 17 -> apply(near(0, model.edits() - 1));
                default -> askSome();
            }
        }

        int randomEnding() {
            int[] odd = {-1, 0, -2, 9, 111, 90, 8, 88, 19};
            return below(3) == 0 ? odd[below(odd.length)] : letters(1, 2, 3);
        }

        void remove(int place) {
            change("remove(" + place + ")", () -> desk.remove(place), () -> model.remove(place));
        }

        void replace(int place, int token) {
            change("replace(" + place + ", " + token + ")", () -> desk.replace(place, token),
                    () -> model.replace(place, token));
        }

        void apply(int index) {
            change("apply(" + index + ")", () -> desk.apply(index), () -> model.apply(index));
        }

        void askSome() {
            switch (below(6)) {
                case 0 -> askForms();
                case 1 -> askWord(word());
                case 2 -> askText();
                case 3 -> askSentence(near(0, model.sentences() - 1));
                case 4 -> askEdits();
                default -> askFigures();
            }
        }

        void askAll() {
            askForms();
            askWord(word());
            askText();
            for (int sentence = 0; sentence <= model.sentences(); sentence++) {
                askSentence(sentence);
            }
            askEdits();
            askFigures();
        }

        void askForms() {
            int root = near(0, model.roots.size() - 1);
            int number = near(0, 1);
            int form = near(0, 2);
            check("form(" + root + ", " + number + ", " + form + ")", () -> desk.form(root, number, form),
                    () -> model.form(root, number, form));
        }

        void askWord(int word) {
            int other = word();
            int index = near(0, 4);
            check("readings(" + word + ")", () -> desk.readings(word), () -> model.readings(word));
            check("reading(" + word + ", " + index + ")", () -> desk.reading(word, index),
                    () -> model.reading(word, index));
            check("guess(" + word + ")", () -> desk.guess(word), () -> model.guess(word));
            if ((("" + word) + other).length() < 12) {
                check("cost(" + word + ", " + other + ")", () -> desk.cost(word, other),
                        () -> model.cost(word, other));
            }
            check("suggestions(" + word + ")", () -> desk.suggestions(word), () -> model.suggestions(word));
            check("suggestion(" + word + ", " + index + ")", () -> desk.suggestion(word, index),
                    () -> model.suggestion(word, index));
        }

        void askText() {
            int place = near(0, model.tokens() - 1);
            check("tokens()", desk::tokens, model::tokens);
            check("token(" + place + ")", () -> desk.token(place), () -> model.token(place));
            check("sentences()", desk::sentences, model::sentences);
            check("left(" + place + ")", () -> desk.left(place), () -> model.left(place));
        }

        void askSentence(int sentence) {
            check("from(" + sentence + ")", () -> desk.from(sentence), () -> model.from(sentence));
            check("words(" + sentence + ")", () -> desk.words(sentence), () -> model.words(sentence));
            check("trees(" + sentence + ")", () -> desk.trees(sentence), () -> model.trees(sentence));
            check("treesAnew(" + sentence + ")", () -> desk.treesAnew(sentence), () -> model.treesAnew(sentence));
            check("best(" + sentence + ")", () -> desk.best(sentence), () -> model.best(sentence));
            check("fault(" + sentence + ")", () -> desk.fault(sentence), () -> model.fault(sentence));
        }

        void askEdits() {
            check("edits()", desk::edits, model::edits);
            for (int i = -1; i <= model.edits(); i++) {
                int index = i;
                check("editPlace(" + index + ")", () -> desk.editPlace(index), () -> model.editPlace(index));
                check("editWord(" + index + ")", () -> desk.editWord(index), () -> model.editWord(index));
            }
        }

        void askFigures() {
            check("badness()", desk::badness, model::badness);
            check("knownShare()", desk::knownShare, model::knownShare);
            check("meanLeft()", desk::meanLeft, model::meanLeft);
            check("isSound()", desk::isSound, () -> true);
        }
    }
}
