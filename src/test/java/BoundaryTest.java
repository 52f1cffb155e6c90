import java.io.IOException;
import java.math.BigInteger;
import java.nio.file.Files;
import java.nio.file.Path;
import java.util.ArrayList;
import java.util.LinkedHashMap;
import java.util.List;
import java.util.Map;
import java.util.NoSuchElementException;
import java.util.function.Consumer;
import java.util.function.IntFunction;
import java.util.function.Supplier;

/**
 * Each sentence of the document that names a boundary case, in the order of the document: the last value that is
 * allowed and the first one that is not, what is empty and what is full, a number that goes round, and that a refused
 * call changes nothing. The document itself is read, so that a sentence without a check of its own is found.
 */
public final class BoundaryTest {
    private static final Path DOCUMENT = Path.of("../shared/DOC.md");
    private static final Class<?> ILLEGAL = IllegalArgumentException.class;
    private static final Class<?> OUTSIDE = IndexOutOfBoundsException.class;
    private static final Class<?> STATE = IllegalStateException.class;
    private static final Class<?> NONE = NoSuchElementException.class;
    private static final Class<?> UNABLE = UnsupportedOperationException.class;
    private static final Class<?> ARITHMETIC = ArithmeticException.class;
    private static final int LEAST = Integer.MIN_VALUE;
    private static final int MOST = Integer.MAX_VALUE;
    /** Words at the edges: each letter alone, the lowest and the highest ones with 2 and with 7 letters. */
    private static final int[] EDGE_WORDS = {1, 2, 3, 4, 5, 6, 7, 8, 11, 18, 81, 88, 1111111, 1234567, 8888888};
    /** What is no word: no letter, a sign, 9 or 0 at the start, inside and at the end, and more than 7 letters. */
    private static final int[] NO_WORDS = {0, -1, -8, -1234567, 9, 10, 19, 90, 91, 80, 108, 198, 9111111, 1911111,
        1191111, 1119111, 1111911, 1111191, 1111119, 1011111, 1101111, 1110111, 1111011, 1111101, 1111110, 10000000,
        11111111, 88888888, 111111111, 1111111111, LEAST, LEAST + 1, MOST};
    /** Numbers of edits that a text has in these tests: none, one, those of one word, one less than are told, all. */
    private static final int[] EDIT_COUNTS = {0, 1, 5, 29, 30};
    /** Sentences of the document that name no boundary, by their first words. */
    private static final String[] WITHOUT_EDGE = {"A checker of grammar", "Roots, endings, rules, cuts and tokens come",
        "A cut has a kind ahead and a kind.", "Ahead of the calls"};

    /** How many checks each sentence has, by its heading and its words. */
    private static final Map<String, Integer> SENTENCES = new LinkedHashMap<>();
    private static String current = "";
    private static int wrong = 0;

    interface Call {
        Object on();
    }

    public static void main(String[] args) throws IOException {
        readDocument();
        Runnable[] parts = {
            BoundaryTest::whatItIs, BoundaryTest::wordsAndRoots, BoundaryTest::endingsAndSeams,
            BoundaryTest::formsAndReadings, BoundaryTest::guesses, BoundaryTest::costs, BoundaryTest::nearWords,
            BoundaryTest::tokensAndSentences, BoundaryTest::cuts, BoundaryTest::categoriesAndRules,
            BoundaryTest::treesOfRows, BoundaryTest::faultsOfSentences, BoundaryTest::whatIsTried,
            BoundaryTest::whichEditsAreTold, BoundaryTest::exceptions, BoundaryTest::promise1, BoundaryTest::promise2,
            BoundaryTest::promise3, BoundaryTest::promise4, BoundaryTest::promise5, BoundaryTest::promise6,
            BoundaryTest::promise7, BoundaryTest::promise8, BoundaryTest::promise9, BoundaryTest::promise10,
            BoundaryTest::promise11, BoundaryTest::promise12, BoundaryTest::promise13, BoundaryTest::promise14,
            BoundaryTest::promise15, BoundaryTest::promise16, BoundaryTest::promise17, BoundaryTest::promise18,
            BoundaryTest::promise19, BoundaryTest::promise20, BoundaryTest::promise21, BoundaryTest::promise22,
            BoundaryTest::promise23, BoundaryTest::promise24, BoundaryTest::promise25, BoundaryTest::promise26,
            BoundaryTest::promise27, BoundaryTest::promise28, BoundaryTest::promise29, BoundaryTest::promise30,
            BoundaryTest::promise31, BoundaryTest::promise32, BoundaryTest::promise33, BoundaryTest::promise34
        };
        for (Runnable part : parts) {
            run(part);
        }
        everySentenceHasItsChecks();
        int checks = 0;
        for (int of : SENTENCES.values()) {
            checks += of;
        }
        System.out.println(checks + " checks, " + wrong + " are not as due");
        if (wrong != 0) {
            System.exit(1);
        }
    }

    // The sentences of the document.

    /** A sentence of "What it is" or "Terms", or a line of a promise. */
    private static void readDocument() throws IOException {
        for (String section : Files.readString(DOCUMENT).split("(?m)^## ")) {
            String heading = section.substring(0, section.indexOf('\n'));
            boolean isPromise = heading.startsWith("Promise ");
            if (isPromise || heading.equals("Terms") || heading.equals("What it is")) {
                String body = section.substring(heading.length() + 1);
                for (String part : body.split("\n\\s*\n|\n(?=- )")) {
                    String words = part.trim().replaceAll("\\s+", " ");
                    for (String one : isPromise ? new String[] {words} : words.split("(?<=\\.) (?=[A-Z])")) {
                        if (!one.isEmpty()) {
                            SENTENCES.put(heading + " | " + one, 0);
                        }
                    }
                }
            }
        }
    }

    /** The checks behind this call are those of the one sentence below a heading that is so, or has these words. */
    private static void said(String heading, String words) {
        List<String> found = new ArrayList<>();
        for (String sentence : SENTENCES.keySet()) {
            boolean isBelow = sentence.startsWith(heading + " | ") || sentence.startsWith(heading + ": ");
            String all = sentence.substring(sentence.indexOf(" | ") + 3);
            if (isBelow && all.equals(words)) {
                current = sentence;
                return;
            }
            if (isBelow && all.contains(words)) {
                found.add(sentence);
            }
        }
        if (found.size() != 1) {
            throw new IllegalStateException(found.size() + " sentences below " + heading + " say: " + words);
        }
        current = found.get(0);
    }

    private static void terms(String words) {
        said("Terms", words);
    }

    private static void promise(int number, String words) {
        said("Promise " + number, words);
    }

    private static boolean namesNoEdge(String words) {
        for (String start : WITHOUT_EDGE) {
            if (words.startsWith(start)) {
                return true;
            }
        }
        // The signature with what the call is for, and the one word that a paragraph begins with.
        return words.matches("`\\w+ \\w+\\(.*") || words.matches("[A-Z]\\w+\\.");
    }

    private static void everySentenceHasItsChecks() {
        for (Map.Entry<String, Integer> sentence : SENTENCES.entrySet()) {
            String words = sentence.getKey().substring(sentence.getKey().indexOf(" | ") + 3);
            if (sentence.getValue() == 0 && !namesNoEdge(words)) {
                wrong++;
                System.out.println("no check of: " + sentence.getKey());
            }
        }
    }

    // Checks.

    /** A call that throws where none is due ends its part, and is told with the sentence that was looked at. */
    private static void run(Runnable part) {
        try {
            part.run();
        } catch (RuntimeException e) {
            wrong++;
            System.out.println(current + "\n    a call throws " + e + " at " + e.getStackTrace()[0]);
        }
    }

    private static void same(String what, Object want, Object got) {
        SENTENCES.merge(current, 1, Integer::sum);
        if (!want.equals(got)) {
            wrong++;
            System.out.println(current + "\n    " + what + ": " + got + ", due is " + want);
        }
    }

    private static Object answer(Call call) {
        try {
            return call.on();
        } catch (RuntimeException e) {
            return e.getClass();
        }
    }

    private static void raises(String what, Class<?> want, Call call) {
        same(what, want, answer(call));
    }

    private static void takes(String what, Call call) {
        Object got = answer(call);
        same(what + " is taken", true, !(got instanceof Class));
    }

    /** All of a range is taken, and what is on either side of it is refused. */
    private static void range(String what, int first, int last, IntFunction<Object> call) {
        for (int number = first; number <= last; number++) {
            int taken = number;
            takes(what + " " + number, () -> call.apply(taken));
        }
        for (int number : new int[] {first - 1, last + 1, LEAST, MOST}) {
            raises(what + " " + number, ILLEGAL, () -> call.apply(number));
        }
    }

    /** The first and the last index are taken, and those on either side are refused. */
    private static void indexes(String what, int count, IntFunction<Object> call) {
        if (count > 0) {
            takes(what + " 0", () -> call.apply(0));
            takes(what + " " + (count - 1), () -> call.apply(count - 1));
        }
        for (int index : new int[] {-1, count, LEAST, MOST}) {
            raises(what + " " + index, OUTSIDE, () -> call.apply(index));
        }
    }

    private static void words(String what, IntFunction<Object> call) {
        for (int word : EDGE_WORDS) {
            takes(what + " " + word, () -> call.apply(word));
        }
        noWords(what, call);
    }

    private static void noWords(String what, IntFunction<Object> call) {
        for (int word : NO_WORDS) {
            raises(what + " " + word, ILLEGAL, () -> call.apply(word));
        }
    }

    /** Tokens are words and 0. */
    private static void tokens(String what, IntFunction<Object> call) {
        takes(what + " 0", () -> call.apply(0));
        for (int word : EDGE_WORDS) {
            takes(what + " " + word, () -> call.apply(word));
        }
        noTokens(what, call);
    }

    private static void noTokens(String what, IntFunction<Object> call) {
        for (int word : NO_WORDS) {
            if (word != 0) {
                raises(what + " " + word, ILLEGAL, () -> call.apply(word));
            }
        }
    }

    /**
     * A call is refused, and a desk that has refused it answers everything as one that was not asked. Looking makes
     * refused calls too, so what is looked at first is another thing each time.
     */
    private static void refused(String what, Class<?> want, Supplier<ConcordDesk> made, Consumer<ConcordDesk> call) {
        for (int turn = 0; turn < 3; turn++) {
            ConcordDesk one = made.get();
            ConcordDesk other = made.get();
            if (turn == 2) {
                same(what + ", before", lookAt(other), lookAt(one));
            }
            raises(what, want, () -> {
                call.accept(one);
                return "taken";
            });
            if (turn > 0) {
                same(what + " changes nothing of the text", lookAt(other), lookAt(one));
            }
            same(what + " changes nothing", whatThereIs(other, turn), whatThereIs(one, turn));
        }
    }

    // Desks.

    /** A desk whose groups 0 to 3 have only an empty ending, for number 0 and case 0. */
    private static ConcordDesk plain(int... roots) {
        ConcordDesk desk = new ConcordDesk();
        for (int group = 0; group < 4; group++) {
            desk.setEnding(group, 0, 0, 0);
        }
        for (int root : roots) {
            desk.addRoot(0, 0, 0, root);
        }
        return desk;
    }

    /** A desk whose group 0 has six empty endings, and with some roots that are the word 1. */
    private static ConcordDesk many(int roots) {
        ConcordDesk desk = new ConcordDesk();
        for (int cell = 0; cell < 6; cell++) {
            desk.setEnding(0, cell / 3, cell % 3, 0);
        }
        for (int root = 0; root < roots; root++) {
            desk.addRoot(0, 0, root % 3, 1);
        }
        return desk;
    }

    /** 1 and 2 are of one kind, 0 and 1; 3 is of the kinds 0 and 1, 4 of all three, 5 of the kinds 1 and 2. */
    private static ConcordDesk kinds() {
        ConcordDesk desk = plain();
        int[][] roots = {{0, 1}, {1, 2}, {0, 3}, {1, 3}, {0, 4}, {1, 4}, {2, 4}, {1, 5}, {2, 5}};
        for (int[] root : roots) {
            desk.addRoot(root[0], 0, 0, root[1]);
        }
        return desk;
    }

    /** A desk with some of everything, and room for more of it. */
    private static ConcordDesk busy() {
        ConcordDesk desk = new ConcordDesk();
        int[] endings = {0, 2, 34, -1, 5, 0};
        for (int group = 0; group < 3; group++) {
            for (int cell = 0; cell < 6; cell++) {
                desk.setEnding(group, cell / 3, cell % 3, endings[(cell + group) % 6]);
            }
        }
        desk.setSeam(0, 3, 4);
        desk.setSeam(1, 2, 0);
        desk.setSeam(3, 8, 8);
        int[][] roots = {{0, 0, 0, 13}, {1, 1, 1, 12}, {2, 2, 2, 7}, {0, 1, 1, 132}, {1, 0, 0, 7}, {2, 3, 0, 5}};
        for (int[] root : roots) {
            desk.addRoot(root[0], root[1], root[2], root[3]);
        }
        desk.addCut(0, 1);
        desk.addCut(1, 2);
        desk.addRule(7, 0, 1, 2, false);
        desk.addRule(3, 0, 2, 0, true);
        desk.addRule(7, 3, 1, 1, false);
        desk.addRule(7, 7, 7, 0, false);
        write(desk, 13, 7, 0, 7, 14, 0, 13, 71);
        return desk;
    }

    private static ConcordDesk tenRoots(ConcordDesk desk) {
        for (int i = 0; i < 4; i++) {
            desk.addRoot(1, 0, 2, 6);
        }
        return desk;
    }

    private static ConcordDesk sixCuts(ConcordDesk desk) {
        for (int i = 0; i < 4; i++) {
            desk.addCut(2, i % 2);
        }
        return desk;
    }

    private static ConcordDesk twelveRules(ConcordDesk desk) {
        for (int i = 0; i < 8; i++) {
            desk.addRule(7 - i % 2, 1, 0, i, i % 2 == 0);
        }
        return desk;
    }

    private static ConcordDesk tenTokens(ConcordDesk desk) {
        desk.insert(0, 7);
        desk.insert(9, 13);
        return desk;
    }

    /** A desk with as many roots, cuts, rules and tokens as there can be. */
    private static ConcordDesk full() {
        return tenRoots(sixCuts(twelveRules(tenTokens(busy()))));
    }

    private static void write(ConcordDesk desk, int... tokens) {
        while (desk.tokens() > 0) {
            desk.remove(0);
        }
        for (int token : tokens) {
            desk.insert(desk.tokens(), token);
        }
    }

    /** Roots, endings, seams, cuts and rules. The desk is of no more use then, for these are counted by filling it. */
    private static String whatThereIs(ConcordDesk desk, int first) {
        StringBuilder all = new StringBuilder();
        for (int i = 0; i < 39; i++) {
            int kind = (first + i / 13) % 3;
            all.append(answer(() -> kind == 0 ? desk.addRule(7, 0, 0, 0, false)
                    : kind == 1 ? desk.addCut(0, 0) : desk.addRoot(0, 0, 0, 1))).append(' ');
        }
        for (int root = 0; root < 10; root++) {
            for (int cell = 0; cell < 6; cell++) {
                int[] of = {root, cell / 3, cell % 3};
                all.append(answer(() -> desk.form(of[0], of[1], of[2]))).append(' ');
            }
        }
        for (int group = 0; group < 4; group++) {
            all.append(desk.setSeam(group, 0, 0)).append(' ');
            for (int cell = 0; cell < 6; cell++) {
                all.append(desk.setEnding(group, cell / 3, cell % 3, -1)).append(' ');
            }
        }
        return all.toString();
    }

    /** All that a desk answers. */
    private static String picture(ConcordDesk desk) {
        return lookAt(desk) + whatThereIs(desk, 0);
    }

    /** What a desk answers about its text. */
    private static String lookAt(ConcordDesk desk) {
        StringBuilder all = new StringBuilder();
        for (int place = 0; place < desk.tokens(); place++) {
            all.append(desk.token(place)).append(':').append(desk.left(place)).append(' ');
        }
        for (int s = 0; s < desk.sentences(); s++) {
            int sentence = s;
            all.append(desk.from(s)).append('+').append(desk.words(s)).append(desk.fault(s)).append(desk.trees(s));
            all.append(answer(() -> desk.treesAnew(sentence))).append(answer(() -> desk.best(sentence))).append(' ');
        }
        int edits = desk.edits();
        for (int i = 0; i < edits; i++) {
            all.append(desk.editPlace(i)).append('=').append(desk.editWord(i)).append(' ');
        }
        all.append(desk.badness()).append(' ').append(edits).append(' ').append(desk.isSound()).append(' ');
        return all.append(answer(desk::knownShare)).append(' ').append(answer(desk::meanLeft)).append('\n').toString();
    }

    private static void edits(String what, ConcordDesk desk, int... due) {
        same(what + ", how many", due.length / 2, desk.edits());
        for (int i = 0; i < due.length / 2 && i < desk.edits(); i++) {
            same(what + ", place " + i, due[2 * i], desk.editPlace(i));
            same(what + ", word " + i, due[2 * i + 1], desk.editWord(i));
        }
    }

    private static void lefts(String what, ConcordDesk desk, int... due) {
        for (int i = 0; i < due.length; i++) {
            same(what + ", left at " + i, due[i], desk.left(i));
        }
    }

    private static void suggested(String what, ConcordDesk desk, int word, int... due) {
        same(what + ", how many", due.length, desk.suggestions(word));
        for (int i = 0; i < due.length; i++) {
            int index = i;
            same(what + ", " + i, due[i], answer(() -> desk.suggestion(word, index)));
        }
        raises(what + ", no more", OUTSIDE, () -> desk.suggestion(word, due.length));
    }

    // What it is, and Terms.

    private static void whatItIs() {
        said("What it is", "An object is used for at most 512 calls after it has been made");
        ConcordDesk desk = plain(1, 2);
        desk.addRule(7, 0, 0, 0, false);
        for (int call = 8; call <= 508; call += 4) {
            desk.insert(0, 1);
            desk.insert(0, 3);
            same("call " + (call + 2), 1, desk.remove(1));
            same("call " + (call + 3), 3, desk.remove(0));
        }
        same("call 512", 0, desk.tokens());
        terms("An edit, once made, makes the badness less");
        for (int index = 0; index < busy().edits(); index++) {
            ConcordDesk one = busy();
            int before = one.badness();
            int less = one.apply(index);
            same("the badness is less", true, one.badness() < before);
            same("the badness is less by what is told", before - less, one.badness());
        }
        same("there are edits", true, busy().edits() > 3);
        ConcordDesk trees = many(10);
        for (int rule = 0; rule < 12; rule++) {
            trees.addRule(7, rule % 4 == 1 ? 7 : 0, rule % 4 == 3 ? 7 : 0, rule % 8, rule % 3 == 0);
        }
        for (int words = 1; words <= 3; words++) {
            trees.insert(0, 1);
            same("trees of " + words + " words", trees.treesAnew(0), trees.trees(0));
        }
        for (int first = 1; first <= 5; first++) {
            bothWays(first);
        }
    }

    /** Rows of three and of two words with 1 to 3 readings each. */
    private static void bothWays(int first) {
        ConcordDesk desk = kinds();
        int[][] rules = {{3, 0, 1}, {7, 3, 2}, {4, 1, 2}, {7, 0, 4}, {7, 1, 0}, {7, 7, 2}, {7, 2, 7}};
        for (int[] rule : rules) {
            desk.addRule(rule[0], rule[1], rule[2], 0, rule[1] > 2);
        }
        for (int second = 1; second <= 5; second++) {
            for (int third = 1; third <= 5; third++) {
                write(desk, first, second, third);
                same("trees of three words", desk.treesAnew(0), desk.trees(0));
            }
            desk.remove(2);
            same("trees of two words", desk.treesAnew(0), desk.trees(0));
        }
    }

    private static void wordsAndRoots() {
        terms("The letters are the digits 1 to 8; a word is a number that is written with 1 to 7 of them.");
        ConcordDesk asked = new ConcordDesk();
        words("readings", asked::readings);
        terms("A root is a word with at most 4 letters, and has a kind from 0 to 2");
        for (int word : new int[] {1, 8, 11, 88, 111, 888, 1111, 1234, 8888}) {
            same("the first root " + word, 0, new ConcordDesk().addRoot(0, 0, 0, word));
        }
        for (int word : new int[] {11111, 12345, 88888, 111111, 8888888}) {
            raises("root " + word, ILLEGAL, () -> new ConcordDesk().addRoot(0, 0, 0, word));
        }
        noWords("root", word -> new ConcordDesk().addRoot(0, 0, 0, word));
        range("kind", 0, 2, kind -> new ConcordDesk().addRoot(kind, 0, 0, 1));
        range("group", 0, 3, group -> new ConcordDesk().addRoot(0, group, 0, 1));
        range("gender", 0, 2, gender -> new ConcordDesk().addRoot(0, 0, gender, 1));
        terms("There are at most 10 roots, numbered from 0.");
        ConcordDesk desk = plain();
        for (int root = 0; root < 10; root++) {
            same("root", root, desk.addRoot(0, 0, 0, 11 + root % 8));
        }
        raises("an eleventh root", STATE, () -> desk.addRoot(0, 0, 0, 1));
        same("the first of 10", 11, desk.form(0, 0, 0));
        same("the last of 10", 12, desk.form(9, 0, 0));
        raises("a root 10", OUTSIDE, () -> desk.form(10, 0, 0));
    }

    private static void endingsAndSeams() {
        terms("A group has endings for a number, 0 or 1, and a case, 0 to 2; an ending is empty, told as 0");
        ConcordDesk fresh = new ConcordDesk();
        for (int root = 0; root < 4; root++) {
            fresh.addRoot(0, root, 0, 5);
        }
        for (int cell = 0; cell < 24; cell++) {
            int[] of = {cell / 6, cell / 3 % 2, cell % 3};
            raises("no ending at first", NONE, () -> fresh.form(of[0], of[1], of[2]));
            same("none at first", -1, fresh.setEnding(of[0], of[1], of[2], 0));
            same("an empty one", 5, fresh.form(of[0], of[1], of[2]));
            same("told as 0", 0, fresh.setEnding(of[0], of[1], of[2], -1));
            raises("none again", NONE, () -> fresh.form(of[0], of[1], of[2]));
        }
        for (int ending : new int[] {-1, 0, 1, 8, 11, 18, 81, 88}) {
            takes("ending " + ending, () -> new ConcordDesk().setEnding(0, 0, 0, ending));
        }
        for (int ending : new int[] {LEAST, -11, -2, 9, 10, 19, 80, 89, 90, 99, 100, 111, 888, 1111, MOST}) {
            raises("ending " + ending, ILLEGAL, () -> new ConcordDesk().setEnding(0, 0, 0, ending));
        }
        range("number", 0, 1, number -> new ConcordDesk().setEnding(0, number, 0, 1));
        range("case", 0, 2, form -> new ConcordDesk().setEnding(0, 0, form, 1));
        terms("A group can have a seam, that is a letter that becomes another one or nothing");
        ConcordDesk desk = plain(8, 18, 188, 8888, 81);
        desk.setEnding(0, 0, 1, 5);
        desk.setEnding(0, 1, 1, 55);
        seam("no seam", desk, 85, 185, 1885, 88885, 815);
        desk.setSeam(1, 8, 1);
        seam("the seam of another group", desk, 85, 185, 1885, 88885, 815);
        desk.setSeam(0, 8, 1);
        seam("another letter, for the last one of 2 to 4 letters alone", desk, 85, 115, 1815, 88815, 815);
        same("no seam ahead of an empty ending", 18, desk.form(1, 0, 0));
        same("a seam ahead of an ending of two letters", 1155, desk.form(1, 1, 1));
        desk.setSeam(0, 8, 0);
        seam("nothing, and once only", desk, 85, 15, 185, 8885, 815);
        same("no seam ahead of an empty ending", 18, desk.form(1, 0, 0));
        same("a seam ahead of an ending of two letters", 155, desk.form(1, 1, 1));
        desk.setSeam(0, 1, 8);
        seam("another letter", desk, 85, 185, 1885, 88885, 885);
        desk.setSeam(0, 0, 0);
        seam("no seam any more", desk, 85, 185, 1885, 88885, 815);
    }

    /** The forms of the roots for the number 0 and the case 1. */
    private static void seam(String what, ConcordDesk desk, int... due) {
        for (int root = 0; root < due.length; root++) {
            same(what + ", root " + root, due[root], desk.form(root, 0, 1));
        }
    }

    private static void formsAndReadings() {
        terms("The form of a root for a number and a case, if its group has such an ending, is the root");
        ConcordDesk desk = new ConcordDesk();
        desk.addRoot(0, 3, 0, 1);
        desk.addRoot(0, 3, 0, 8888);
        raises("without such an ending", NONE, () -> desk.form(1, 1, 2));
        desk.setEnding(3, 1, 2, 0);
        same("the shortest form", 1, desk.form(0, 1, 2));
        desk.setEnding(3, 1, 2, 88);
        same("the longest form", 888888, desk.form(1, 1, 2));
        desk.setSeam(3, 8, 7);
        same("the longest form behind a seam", 888788, desk.form(1, 1, 2));
        raises("without an ending for another case", NONE, () -> desk.form(1, 1, 1));
        raises("without an ending for another number", NONE, () -> desk.form(1, 0, 2));
        terms("A word has a reading for each root, number and case whose form it is");
        ConcordDesk all = many(10);
        same("all readings there can be", 60, all.readings(1));
        for (int index = 0; index < 60; index++) {
            same("reading " + index, index / 6 * 10 + index % 6, all.reading(1, index));
        }
        same("no reading", 0, all.readings(2));
        ConcordDesk last = new ConcordDesk();
        last.setEnding(0, 1, 2, 0);
        for (int root = 0; root < 10; root++) {
            last.addRoot(0, 0, 0, root < 9 ? 2 : 1);
        }
        same("one reading", 1, last.readings(1));
        same("the last one that there can be", 95, last.reading(1, 0));
        terms("A word with readings is known.");
        raises("one reading: no guess", STATE, () -> last.guess(1));
        write(last, 1);
        same("one reading: no fault of spelling", 'g', last.fault(0));
        raises("no reading: not known, but no ending", NONE, () -> last.guess(3));
        write(last, 3);
        same("no reading: a fault of spelling", 'u', last.fault(0));
    }

    private static void guesses() {
        terms("For a word that is not, the guess is the group, number and case of the longest");
        ConcordDesk desk = plain();
        raises("an empty ending is no guess", NONE, () -> desk.guess(12));
        desk.setEnding(2, 0, 1, 2);
        raises("an ending as long as a word of one letter", NONE, () -> desk.guess(2));
        same("an ending shorter by one letter", 21, desk.guess(12));
        same("an ending shorter by six letters", 21, desk.guess(8888882));
        raises("not what the word ends with", NONE, () -> desk.guess(21));
        desk.setEnding(3, 1, 2, 12);
        same("an ending as long as a word of two letters: the shorter one", 21, desk.guess(12));
        same("the longest one, shorter by one letter", 35, desk.guess(112));
        same("the longest one, shorter by five letters", 35, desk.guess(8888812));
        same("the first letter is another one", 21, desk.guess(8888822));
        ConcordDesk order = new ConcordDesk();
        for (int cell = 23; cell >= 0; cell--) {
            order.setEnding(cell / 6, cell / 3 % 2, cell % 3, 34);
            same("lowest group, then number, then case", cell / 6 * 10 + cell % 6, order.guess(134));
        }
        order.setEnding(0, 0, 0, 4);
        same("a shorter one that is lower", 1, order.guess(134));
        terms("A guess looks at the endings of all groups, also of those without roots.");
        for (int group = 0; group < 4; group++) {
            ConcordDesk rootless = new ConcordDesk();
            rootless.setEnding(group, 1, 2, 8);
            same("no roots at all", 10 * group + 5, rootless.guess(18));
            rootless.addRoot(0, (group + 1) % 4, 0, 1);
            same("roots of another group", 10 * group + 5, rootless.guess(18));
            rootless.addRoot(0, group, 0, 2);
            same("roots of its group", 10 * group + 5, rootless.guess(18));
        }
    }

    private static void costs() {
        terms("The cost of a word beside another one is the least sum by which the first one becomes the second one");
        // Nothing; one letter put in ahead, between and behind; six letters taken out; one for one, and all seven.
        int[][] due = {{1, 1, 0}, {8888888, 8888888, 0}, {18, 518, 2}, {18, 158, 2}, {18, 185, 2}, {1111111, 1, 12},
            {8888888, 1, 14}, {1111111, 8888888, 14}, {1111111, 2222222, 7},
            // Greater or less by 1, then by 2, and 8 is no neighbour of 1.
            {1, 2, 1}, {7, 8, 1}, {1, 3, 2}, {6, 8, 2}, {1, 8, 2}, {4, 5, 1}, {4, 6, 2},
            // Neighbours that change places: at the start, at the end, twice, and not two that are no neighbours.
            {18, 81, 1}, {1855, 8155, 1}, {5518, 5581, 1}, {1818, 8181, 2}, {1234567, 1234576, 1}, {158, 851, 4},
            // Something put in or taken out between them, and beside them.
            {18, 851, 6}, {158, 81, 6}, {18, 581, 3}, {18, 815, 3}, {14, 451, 5},
            // A letter that would change places twice, or change places and become another one.
            {148, 481, 4}, {18, 82, 4}, {18, 71, 4}, {1122, 2211, 3}, {123, 231, 4}};
        ConcordDesk desk = new ConcordDesk();
        for (int[] d : due) {
            same("cost " + d[0] + ", " + d[1], d[2], desk.cost(d[0], d[1]));
            same("cost " + d[1] + ", " + d[0], d[2], desk.cost(d[1], d[0]));
        }
    }

    private static void nearWords() {
        terms("The suggestions for a word are the known words other than it whose cost beside it is at most 3");
        suggested("no known words", new ConcordDesk(), 1);
        ConcordDesk far = plain(1111);
        same("a cost of 3", 3, far.cost(1222, 1111));
        suggested("a cost of 3", far, 1222, 1111);
        same("a cost of 3 with a letter more", 3, far.cost(11112, 1121));
        suggested("a cost of 3 with a letter less", far, 112, 1111);
        same("a cost of 4", 4, far.cost(2222, 1111));
        suggested("a cost of 4", far, 2222);
        suggested("a cost of 4, by two letters less", far, 11);
        suggested("a cost of 4, by two letters more", far, 111111);
        suggested("not itself", far, 1111);
        ConcordDesk first = plain(15, 14, 13, 12);
        suggested("four, in the order of costs", first, 16, 15, 12, 13, 14);
        first.addRoot(0, 0, 0, 11);
        suggested("five", first, 16, 15, 11, 12, 13, 14);
        first.addRoot(0, 0, 0, 17);
        suggested("the first five of six", first, 16, 15, 17, 11, 12, 13);
        first.addRoot(0, 0, 0, 16);
        suggested("the first five of seven, not itself", first, 16, 15, 17, 11, 12, 13);
        ConcordDesk length = plain(166, 16, 6);
        suggested("then of words, by their numbers", length, 66, 6, 16, 166);
        ConcordDesk most = new ConcordDesk();
        int[] endings = {1, 2, 3, 4, 5, 6};
        for (int cell = 0; cell < 6; cell++) {
            most.setEnding(0, cell / 3, cell % 3, endings[cell]);
        }
        for (int root = 0; root < 10; root++) {
            most.addRoot(0, 0, 0, 11 + root % 5 * 10 + root / 5);
        }
        suggested("the first five of 60 known words", most, 117, 116, 111, 112, 113, 114);
    }

    private static void tokensAndSentences() {
        terms("A text has at most 10 tokens, at places from 0 on; a token is a word, or a stop, 0.");
        ConcordDesk desk = new ConcordDesk();
        raises("no place in an empty text", OUTSIDE, () -> desk.token(0));
        for (int count = 0; count < 10; count++) {
            same("tokens", count + 1, desk.insert(count, count % 3));
        }
        raises("an eleventh token", STATE, () -> desk.insert(10, 1));
        raises("an eleventh token, a stop", STATE, () -> desk.insert(0, 0));
        for (int place = 0; place < 10; place++) {
            same("token " + place, place % 3, desk.token(place));
        }
        raises("no place 10", OUTSIDE, () -> desk.token(10));
        raises("no place -1", OUTSIDE, () -> desk.token(-1));
        tokens("token", token -> new ConcordDesk().insert(0, token));
        terms("A sentence is a row of words without a stop between them, as long as can be");
        split("empty", of());
        split("a stop", of(), 0);
        split("ten stops", of(), 0, 0, 0, 0, 0, 0, 0, 0, 0, 0);
        split("a word", of(0, 1), 1);
        split("ten words", of(0, 10), 1, 1, 1, 1, 1, 1, 1, 1, 1, 1);
        split("five sentences", of(0, 1, 2, 1, 4, 1, 6, 1, 8, 1), 1, 0, 1, 0, 1, 0, 1, 0, 1, 0);
        split("five sentences behind stops", of(1, 1, 3, 1, 5, 1, 7, 1, 9, 1), 0, 1, 0, 1, 0, 1, 0, 1, 0, 1);
        split("stops at both ends", of(1, 8), 0, 1, 1, 1, 1, 1, 1, 1, 1, 0);
        split("two stops between", of(0, 4, 6, 4), 1, 1, 1, 1, 0, 0, 1, 1, 1, 1);
        split("one word ahead", of(0, 1, 2, 8), 1, 0, 1, 1, 1, 1, 1, 1, 1, 1);
        split("one word behind", of(0, 8, 9, 1), 1, 1, 1, 1, 1, 1, 1, 1, 0, 1);
    }

    private static int[] of(int... numbers) {
        return numbers;
    }

    /** Due are the place and the size of each sentence. */
    private static void split(String what, int[] due, int... tokens) {
        ConcordDesk desk = new ConcordDesk();
        write(desk, tokens);
        int count = due.length / 2;
        same(what + ", sentences", count, desk.sentences());
        for (int sentence = 0; sentence < count; sentence++) {
            same(what + ", from " + sentence, due[2 * sentence], desk.from(sentence));
            same(what + ", words " + sentence, due[2 * sentence + 1], desk.words(sentence));
        }
        raises(what + ", no more", OUTSIDE, () -> desk.from(count));
        raises(what + ", no more", OUTSIDE, () -> desk.words(count));
    }

    private static void cuts() {
        terms("In a sentence, each word has its readings at first.");
        ConcordDesk first = kinds();
        write(first, 4, 0, 8, 4);
        lefts("all readings of a word, none of an unknown one", first, 3, 0, 0, 3);
        first.addCut(0, 0);
        first.addCut(1, 1);
        first.addCut(2, 2);
        write(first, 4);
        lefts("a word alone", first, 3);
        write(first, 1, 0, 4, 4);
        lefts("the first word of a sentence behind a stop", first, 1, 0, 3, 3);
        terms("The words are gone through from the second one on, for each one all cuts by rising numbers");
        ConcordDesk desk = kinds();
        desk.addCut(0, 0);
        write(desk, 1, 3, 0, 4, 3);
        lefts("from the second one on, and behind one kind alone", desk, 1, 1, 0, 3, 2);
        write(desk, 8, 3, 8);
        lefts("no readings ahead, and none to take away", desk, 0, 2, 0);
        write(desk, 1, 1, 4, 3);
        lefts("the last readings are not taken away", desk, 1, 1, 2, 2);
        desk.addCut(1, 1);
        write(desk, 1, 3, 3, 3, 3, 3, 3, 3, 3, 4);
        lefts("from one word to the next, through ten", desk, 1, 1, 1, 1, 1, 1, 1, 1, 1, 2);
        for (int turn = 0; turn < 2; turn++) {
            ConcordDesk order = kinds();
            order.addCut(0, turn);
            order.addCut(0, 1 - turn);
            // The first one takes one kind of two away; then the second one finds no other readings.
            write(order, 1, 3);
            order.addRule(7, 0, 0, 0, false);
            same("the cut with the lower number goes first", (long) turn, order.trees(0));
            same("one reading is left", 1, order.left(1));
        }
        ConcordDesk six = kinds();
        for (int cut = 0; cut < 5; cut++) {
            six.addCut(2, cut % 3);
        }
        write(six, 1, 3);
        lefts("five cuts that do nothing", six, 1, 2);
        six.addCut(0, 1);
        lefts("the sixth cut", six, 1, 1);
    }

    private static void categoriesAndRules() {
        terms("There are the categories 0 to 7; those from 0 to 2 are the kinds of words.");
        range("first category", 0, 7, category -> new ConcordDesk().addRule(7, category, 0, 0, false));
        range("second category", 0, 7, category -> new ConcordDesk().addRule(7, 0, category, 0, false));
        for (int category = 0; category < 8; category++) {
            ConcordDesk desk = kinds();
            desk.addRule(7, category, category, 0, false);
            write(desk, 4, 4);
            same("a word of all kinds has the category " + category, category < 3 ? 1L : 0L, desk.trees(0));
        }
        terms("A rule makes a category from 3 to 7 of two categories, one behind the other; it tells in what");
        range("makes", 3, 7, makes -> new ConcordDesk().addRule(makes, 0, 0, 0, false));
        range("agree", 0, 7, agree -> new ConcordDesk().addRule(7, 0, 0, agree, false));
        for (int makes = 3; makes < 8; makes++) {
            ConcordDesk desk = kinds();
            desk.addRule(makes, 0, 1, 0, false);
            desk.addRule(7, makes, 0, 0, false);
            write(desk, 1, 2, 1);
            same("a rule that makes " + makes, 1L, desk.trees(0));
            write(desk, 2, 1, 1);
            same("one behind the other", 0L, desk.trees(0));
        }
        for (int agree = 0; agree < 8; agree++) {
            agreeing(agree);
        }
        for (int rule = 1; rule <= 12; rule++) {
            ConcordDesk desk = kinds();
            for (int i = 1; i <= 12; i++) {
                desk.addRule(i == rule ? 7 : 3, 0, 1, 0, false);
            }
            write(desk, 1, 2);
            same("the weight of rule " + rule, rule, desk.best(0));
        }
    }

    /** The first word has gender 0, number 0 and case 0; behind it stand all genders, numbers and cases. */
    private static void agreeing(int agree) {
        ConcordDesk desk = new ConcordDesk();
        for (int cell = 0; cell < 6; cell++) {
            desk.setEnding(0, cell / 3, cell % 3, cell + 1);
        }
        for (int gender = 0; gender < 3; gender++) {
            desk.addRoot(0, 0, gender, gender + 1);
        }
        desk.addRule(7, 0, 0, agree, false);
        write(desk, 11, 11);
        for (int gender = 0; gender < 3; gender++) {
            for (int cell = 0; cell < 6; cell++) {
                desk.replace(1, 10 * (gender + 1) + cell + 1);
                boolean fits = (agree % 2 == 0 || gender == 0) && (agree / 2 % 2 == 0 || cell / 3 == 0)
                        && (agree / 4 == 0 || cell % 3 == 0);
                String what = "agree " + agree + " beside gender " + gender + ", cell " + cell;
                same(what, fits ? 1L : 0L, desk.trees(0));
                same(what + ", gone through", fits ? 1L : 0L, desk.treesAnew(0));
            }
        }
    }

    private static void treesOfRows() {
        terms("A tree for a row of words is a reading that is left, for one word");
        ConcordDesk desk = kinds();
        desk.addRule(7, 0, 1, 0, false);
        write(desk, 3, 3);
        same("readings that are left", 1L, desk.trees(0));
        desk.addCut(2, 1);
        write(desk, 1, 3);
        same("two readings left", 1L, desk.trees(0));
        desk.addCut(0, 1);
        same("one reading left, of the other kind", 0L, desk.trees(0));
        write(desk, 1, 8);
        same("no readings", 0L, desk.trees(0));
        for (int features = 0; features < 18; features++) {
            heads(features, false);
            heads(features, true);
        }
        terms("The weight of a tree is the sum of the weights of its rules.");
        ConcordDesk chain = plain(1);
        for (int rule = 1; rule < 11; rule++) {
            chain.addRule(3, 7, 7, 0, false);
        }
        chain.addRule(7, 0, 0, 0, false);
        chain.addRule(7, 7, 0, 0, false);
        write(chain, 1, 1);
        for (int words = 2; words <= 10; words++) {
            same("weight of " + words + " words", 11 + 12 * (words - 2), chain.best(0));
            if (words < 10) {
                chain.insert(0, 1);
            }
        }
        terms("The trees of a sentence are those with the category 7.");
        for (int makes = 3; makes < 8; makes++) {
            ConcordDesk one = plain(1);
            one.addRule(makes, 0, 0, 0, false);
            write(one, 1, 1);
            same("category " + makes, makes == 7 ? 1L : 0L, one.trees(0));
            write(one, 1);
            same("a word alone", 0L, one.trees(0));
        }
        terms("They are the same if they have the same readings, rules and parts.");
        ConcordDesk same = many(1);
        same.setEnding(0, 1, 2, 2);
        write(same, 1, 12);
        same.addRule(7, 0, 0, 0, false);
        same("five readings of one word", 5L, same.trees(0));
        same.addRule(7, 0, 0, 0, false);
        same("two rules", 10L, same.trees(0));
        ConcordDesk parts = plain(1);
        parts.addRule(7, 0, 0, 0, false);
        parts.addRule(7, 7, 0, 0, false);
        write(parts, 1, 1, 1);
        same("one way to part three words", 1L, parts.trees(0));
        parts.addRule(7, 0, 7, 0, false);
        same("two ways to part three words", 2L, parts.trees(0));
        same("two ways, gone through", 2L, parts.treesAnew(0));
    }

    /** 11 has gender 0, number 0 and case 0, and 26 has gender 2, number 1 and case 2; the third word has any. */
    private static void heads(int features, boolean isSecond) {
        ConcordDesk desk = new ConcordDesk();
        for (int cell = 0; cell < 6; cell++) {
            desk.setEnding(0, cell / 3, cell % 3, cell + 1);
        }
        desk.addRoot(0, 0, 0, 1);
        desk.addRoot(1, 0, 2, 2);
        desk.addRoot(2, 0, features / 6, 3);
        desk.addRule(3, 0, 1, 0, isSecond);
        desk.addRule(7, 3, 2, 7, false);
        write(desk, 11, 26, 31 + features % 6);
        long due = features == (isSecond ? 17 : 0) ? 1 : 0;
        same("gender, number and case of the head", due, desk.trees(0));
        same("gender, number and case of the head, gone through", due, desk.treesAnew(0));
    }

    private static void faultsOfSentences() {
        terms("A sentence has the fault 'u' if a word of it is not known; otherwise 'g' if it has no tree");
        ConcordDesk desk = kinds();
        write(desk, 1, 2);
        same("no tree, for there are no rules", 'g', desk.fault(0));
        desk.addRule(7, 0, 1, 0, false);
        same("a tree", '-', desk.fault(0));
        write(desk, 1, 1);
        same("no tree", 'g', desk.fault(0));
        write(desk, 1);
        same("a known word alone", 'g', desk.fault(0));
        write(desk, 8);
        same("an unknown word alone", 'u', desk.fault(0));
        write(desk, 8, 1, 1, 0, 1, 1, 8);
        same("unknown at the start, and no tree", 'u', desk.fault(0));
        same("unknown at the end, and no tree", 'u', desk.fault(1));
        terms("Its badness is 2 for each word that is not known, or 1 for 'g'.");
        badness("nothing", 0);
        badness("stops", 0, 0, 0);
        badness("a tree", 0, 1, 2);
        badness("no tree", 1, 1, 1);
        badness("no tree of ten words", 1, 1, 1, 1, 1, 1, 1, 1, 1, 1, 1);
        badness("one word of two", 2, 1, 8);
        badness("one word of ten", 2, 1, 1, 1, 1, 8, 1, 1, 1, 1, 1);
        badness("two words alike", 4, 8, 8);
        badness("ten words", 20, 8, 7, 8, 7, 8, 7, 8, 7, 8, 7);
    }

    private static void badness(String what, int due, int... tokens) {
        ConcordDesk desk = kinds();
        desk.addRule(7, 0, 1, 0, false);
        write(desk, tokens);
        same("badness of " + what, due, desk.badness());
    }

    /** Kind 0 has the forms 1, 12, 13 of number 0 and 14 of number 1; kind 1 has 5 and 54, alike. */
    private static ConcordDesk numbers() {
        ConcordDesk desk = new ConcordDesk();
        desk.setEnding(0, 0, 0, 0);
        desk.setEnding(0, 0, 1, 2);
        desk.setEnding(0, 0, 2, 3);
        desk.setEnding(0, 1, 0, 4);
        desk.setEnding(1, 0, 0, 0);
        desk.setEnding(1, 1, 0, 4);
        desk.addRoot(0, 0, 0, 1);
        desk.addRoot(1, 1, 0, 5);
        desk.addRule(7, 0, 1, 2, false);
        return desk;
    }

    private static void whatIsTried() {
        terms("For a place of a text with a word in a sentence with a fault, the words that are tried are");
        ConcordDesk desk = numbers();
        edits("an empty text", desk);
        write(desk, 0, 0);
        edits("stops", desk);
        write(desk, 1, 5);
        edits("a sentence without a fault", desk);
        write(desk, 1, 54);
        edits("forms of its root, other than it", desk, 0, 14, 1, 5);
        write(desk, 1, 5, 0, 1, 54);
        edits("only in the sentence with a fault", desk, 3, 14, 4, 5);
        write(desk, 64);
        // 54 costs 1 beside 64, 14 costs 2, 5 and 13 cost 3; 1 and 12 cost 4.
        edits("its suggestions", desk, 0, 5, 0, 13, 0, 14, 0, 54);
        write(desk, 7777);
        edits("no suggestions", desk);
        write(desk, 64, 1);
        edits("the forms of a known word beside an unknown one make nothing less", desk, 0, 5, 0, 13, 0, 14, 0, 54);
        ConcordDesk five = plain(11, 12, 13, 14, 15, 17);
        write(five, 16);
        edits("the first five suggestions of six", five, 0, 11, 0, 12, 0, 13, 0, 15, 0, 17);
        ConcordDesk cut = numbers();
        cut.addRoot(2, 2, 0, 5);
        cut.setEnding(2, 0, 0, 0);
        cut.setEnding(2, 0, 1, 6);
        cut.addCut(0, 1);
        write(cut, 14, 5);
        same("5 has readings of two roots, and one is left", 1, cut.left(1));
        // 54 is a form of the root that is cut, 56 of the other one, for whose kind there is no rule.
        edits("forms of a root of which no reading is left", cut, 1, 54);
        write(cut, 1, 54);
        edits("forms of a word that loses its readings in the text", cut, 0, 14);
        terms("Each one with which the badness of the sentence is less is an edit.");
        write(desk, 14, 54);
        edits("less than 0 is nothing", desk);
        write(desk, 5, 1);
        edits("from 1 to 1 is not less", desk);
        write(desk, 14, 5);
        edits("from 1 to 0", desk, 0, 1, 0, 12, 0, 13, 1, 54);
        write(desk, 55);
        edits("from 2 to 1", desk, 0, 5, 0, 14, 0, 54);
        write(desk, 1, 55);
        edits("from 2 to 0 or 1", desk, 1, 5, 1, 14, 1, 54);
        write(desk, 55, 55);
        edits("from 4 to 2", desk, 0, 5, 0, 14, 0, 54, 1, 5, 1, 14, 1, 54);
    }

    private static void whichEditsAreTold() {
        terms("Edits are in the order of places, then words, each once; at most 30 are told, the first ones.");
        ConcordDesk order = new ConcordDesk();
        order.setEnding(0, 0, 0, 1);
        order.setEnding(0, 1, 0, 11);
        order.setEnding(1, 0, 0, 1);
        order.setEnding(1, 1, 0, 2);
        order.setEnding(1, 1, 1, 2);
        order.addRoot(0, 0, 0, 3);
        order.addRoot(0, 1, 0, 3);
        order.addRoot(1, 2, 0, 6);
        order.setEnding(2, 1, 0, 0);
        order.addRule(7, 0, 1, 2, false);
        write(order, 31, 6);
        edits("32, of two readings, once, and 311 behind it", order, 0, 32, 0, 311);
        // Beside 16 there are five suggestions, and beside 78 there is one.
        for (int fives = 5; fives <= 6; fives++) {
            for (int ones = 0; ones <= 4; ones++) {
                ConcordDesk desk = plain(11, 12, 13, 14, 15, 77);
                for (int i = 0; i < fives + ones; i++) {
                    desk.insert(i, i < fives ? 16 : 78);
                }
                int all = 5 * fives + ones;
                int told = Math.min(30, all);
                same("told of " + all, told, desk.edits());
                same("the last word of " + all, fives == 6 || ones == 0 ? 15 : 77, desk.editWord(told - 1));
                same("the last place of " + all, fives == 6 || ones == 0 ? fives - 1 : all - 4 * fives - 1,
                        desk.editPlace(told - 1));
                raises("no edit behind the last one of " + all, OUTSIDE, () -> desk.editWord(told));
                same("the first one of " + all, 11, desk.editWord(0));
            }
        }
        ConcordDesk most = plain(11, 12, 13, 14, 15);
        write(most, 16, 16, 16, 16, 16, 16, 16, 16, 16, 16);
        same("told of 50", 30, most.edits());
        for (int index = 0; index < 30; index++) {
            same("place of edit " + index, index / 5, most.editPlace(index));
            same("word of edit " + index, 11 + index % 5, most.editWord(index));
        }
    }

    private static void exceptions() {
        terms("A method that throws an exception changes nothing.");
        refused("addRoot", ILLEGAL, BoundaryTest::busy, desk -> desk.addRoot(0, 0, 0, 9));
        refused("addRoot", STATE, () -> tenRoots(busy()), desk -> desk.addRoot(0, 0, 0, 1));
        refused("setEnding", ILLEGAL, BoundaryTest::busy, desk -> desk.setEnding(0, 0, 0, 9));
        refused("setSeam", ILLEGAL, BoundaryTest::busy, desk -> desk.setSeam(0, 1, 9));
        refused("form", NONE, BoundaryTest::busy, desk -> desk.form(5, 0, 0));
        refused("reading", OUTSIDE, BoundaryTest::busy, desk -> desk.reading(13, 9));
        refused("guess", STATE, BoundaryTest::busy, desk -> desk.guess(13));
        refused("suggestion", OUTSIDE, BoundaryTest::busy, desk -> desk.suggestion(8888888, 0));
        refused("insert", ILLEGAL, BoundaryTest::busy, desk -> desk.insert(0, 9));
        refused("insert", STATE, () -> tenTokens(busy()), desk -> desk.insert(0, 1));
        refused("remove", OUTSIDE, BoundaryTest::busy, desk -> desk.remove(8));
        refused("replace", ILLEGAL, BoundaryTest::busy, desk -> desk.replace(0, 9));
        refused("addCut", ILLEGAL, BoundaryTest::busy, desk -> desk.addCut(0, 3));
        refused("addCut", STATE, () -> sixCuts(busy()), desk -> desk.addCut(0, 0));
        refused("addRule", ILLEGAL, BoundaryTest::busy, desk -> desk.addRule(7, 0, 0, 8, false));
        refused("addRule", STATE, () -> twelveRules(busy()), desk -> desk.addRule(7, 0, 0, 0, false));
        refused("treesAnew", UNABLE, () -> {
            ConcordDesk desk = busy();
            desk.remove(2);
            return desk;
        }, desk -> desk.treesAnew(0));
        refused("best", NONE, BoundaryTest::busy, desk -> desk.best(1));
        refused("apply", OUTSIDE, BoundaryTest::busy, desk -> desk.apply(desk.edits()));
        terms("If several exceptions apply, the one that is documented first is thrown.");
        ConcordDesk full = full();
        raises("addRoot, no kind and 10 roots", ILLEGAL, () -> full.addRoot(3, 0, 0, 1));
        raises("addRoot, no word and 10 roots", ILLEGAL, () -> full.addRoot(0, 0, 0, 11111));
        raises("form, no root and no number", OUTSIDE, () -> full.form(10, 2, 0));
        raises("form, no root and no case", OUTSIDE, () -> full.form(-1, 0, -1));
        raises("form, no case and no ending", ILLEGAL, () -> full.form(5, 0, 3));
        raises("reading, no word and no index", ILLEGAL, () -> full.reading(9, -1));
        raises("guess, no word", ILLEGAL, () -> full.guess(9));
        ConcordDesk known = plain(1);
        raises("guess, known and no such ending", STATE, () -> known.guess(1));
        raises("suggestion, no word and no index", ILLEGAL, () -> full.suggestion(0, -1));
        raises("insert, no place, no token and 10 tokens", OUTSIDE, () -> full.insert(11, 9));
        raises("insert, no place and 10 tokens", OUTSIDE, () -> full.insert(-1, 1));
        raises("insert, no token and 10 tokens", ILLEGAL, () -> full.insert(10, -1));
        raises("insert, no place and no token", OUTSIDE, () -> new ConcordDesk().insert(1, 9));
        raises("replace, no place and no token", OUTSIDE, () -> full.replace(10, 9));
        raises("addCut, no kind and 6 cuts", ILLEGAL, () -> full.addCut(3, 0));
        raises("addRule, no category and 12 rules", ILLEGAL, () -> full.addRule(2, 0, 0, 0, false));
        ConcordDesk long4 = plain();
        write(long4, 1, 1, 1, 1);
        raises("treesAnew, no sentence, the other one has 4 words", OUTSIDE, () -> long4.treesAnew(1));
        raises("best, no sentence, the other one has no tree", OUTSIDE, () -> long4.best(1));
    }

    // The promises.

    private static void promise1() {
        promise(1, "Creates a desk without roots, endings, seams, cuts, rules and an empty text.");
        ConcordDesk fresh = new ConcordDesk();
        same("tokens", 0, fresh.tokens());
        same("sentences", 0, fresh.sentences());
        same("badness", 0, fresh.badness());
        same("edits", 0, fresh.edits());
        raises("no root", OUTSIDE, () -> fresh.form(0, 0, 0));
        for (int group = 0; group < 4; group++) {
            same("no seam", 0, fresh.setSeam(group, 0, 0));
            for (int cell = 0; cell < 6; cell++) {
                same("no ending", -1, fresh.setEnding(group, cell / 3, cell % 3, -1));
            }
        }
        same("the first root", 0, fresh.addRoot(0, 0, 0, 1));
        same("the first cut", 1, fresh.addCut(0, 0));
        same("the first rule", 1, fresh.addRule(7, 0, 0, 0, false));
        same("nothing is shared with another desk", picture(new ConcordDesk()), picture(new ConcordDesk()));
    }

    private static void promise2() {
        promise(2, "`kind`: its kind, 0 to 2");
        range("addRoot kind", 0, 2, kind -> busy().addRoot(kind, 0, 0, 1));
        promise(2, "`group`: its group, 0 to 3");
        range("addRoot group", 0, 3, group -> busy().addRoot(0, group, 0, 1));
        promise(2, "`gender`: its gender, 0 to 2");
        range("addRoot gender", 0, 2, gender -> busy().addRoot(0, 0, gender, 1));
        promise(2, "`word`: its letters");
        for (int word : new int[] {1, 8, 11, 88, 111, 888, 1111, 8888}) {
            ConcordDesk desk = plain();
            desk.addRoot(0, 0, 0, word);
            same("letters of root " + word, word, desk.form(0, 0, 0));
        }
        promise(2, "Returns the number of the root.");
        ConcordDesk roots = new ConcordDesk();
        for (int root = 0; root < 10; root++) {
            same("number of a root", root, roots.addRoot(0, 0, 0, 1));
        }
        promise(2, "if a number is out of range, or it is no word with at most 4 letters");
        for (int word : new int[] {0, -1, 9, 10, 1911, 1101, 9111, 1119, 11111, 88888, LEAST, MOST}) {
            refused("addRoot " + word, ILLEGAL, BoundaryTest::busy, desk -> desk.addRoot(0, 0, 0, word));
        }
        noWords("addRoot", word -> busy().addRoot(0, 0, 0, word));
        refused("addRoot kind", ILLEGAL, BoundaryTest::busy, desk -> desk.addRoot(3, 0, 0, 1));
        refused("addRoot group", ILLEGAL, BoundaryTest::busy, desk -> desk.addRoot(0, -1, 0, 1));
        refused("addRoot gender", ILLEGAL, BoundaryTest::busy, desk -> desk.addRoot(0, 0, 3, 1));
        promise(2, "if there are 10 roots");
        ConcordDesk nine = plain(1, 1, 1, 1, 1, 1, 1, 1, 1);
        same("a root where there are nine", 9, nine.addRoot(0, 0, 0, 1));
        raises("a root where there are ten", STATE, () -> nine.addRoot(0, 0, 0, 1));
        refused("a root where there are ten", STATE, () -> tenRoots(busy()), desk -> desk.addRoot(2, 3, 2, 8888));
        refused("a root where all is full", STATE, BoundaryTest::full, desk -> desk.addRoot(0, 0, 0, 1));
    }

    private static void promise3() {
        promise(3, "`group`: the group, 0 to 3");
        range("setEnding group", 0, 3, group -> busy().setEnding(group, 0, 0, 1));
        promise(3, "`number`: the number, 0 or 1");
        range("setEnding number", 0, 1, number -> busy().setEnding(0, number, 0, 1));
        promise(3, "`form`: the case, 0 to 2");
        range("setEnding case", 0, 2, form -> busy().setEnding(0, 0, form, 1));
        promise(3, "`ending`: the ending, 0 for an empty one, -1 for none");
        ConcordDesk one = new ConcordDesk();
        one.addRoot(0, 0, 0, 7);
        int[][] endings = {{-1, 0}, {0, 7}, {1, 71}, {8, 78}, {11, 711}, {88, 788}, {-1, 0}, {18, 718}, {0, 7}};
        for (int[] ending : endings) {
            one.setEnding(0, 1, 2, ending[0]);
            Object due = ending[1] == 0 ? NONE : (Object) ending[1];
            same("a form with the ending " + ending[0], due, answer(() -> one.form(0, 1, 2)));
        }
        promise(3, "Returns the ending before, or -1.");
        ConcordDesk before = new ConcordDesk();
        same("none before", -1, before.setEnding(3, 1, 2, -1));
        same("still none before", -1, before.setEnding(3, 1, 2, 0));
        same("an empty one before", 0, before.setEnding(3, 1, 2, 88));
        same("one of two letters before", 88, before.setEnding(3, 1, 2, 1));
        same("one of a letter before", 1, before.setEnding(3, 1, 2, -1));
        same("none again", -1, before.setEnding(3, 1, 2, -1));
        same("none for another case", -1, before.setEnding(3, 1, 1, 2));
        same("none for another number", -1, before.setEnding(3, 0, 2, 3));
        same("none for another group", -1, before.setEnding(0, 1, 2, 4));
        promise(3, "if a number is out of range, or it is no ending");
        for (int ending : new int[] {-2, 9, 10, 19, 90, 80, 108, 111, 888, LEAST, MOST}) {
            refused("ending " + ending, ILLEGAL, BoundaryTest::busy, desk -> desk.setEnding(0, 0, 1, ending));
        }
        refused("ending group", ILLEGAL, BoundaryTest::busy, desk -> desk.setEnding(4, 0, 0, 1));
        refused("ending number", ILLEGAL, BoundaryTest::busy, desk -> desk.setEnding(0, 2, 0, 1));
        refused("ending case", ILLEGAL, BoundaryTest::busy, desk -> desk.setEnding(0, 0, 3, 1));
        refused("ending case", ILLEGAL, BoundaryTest::busy, desk -> desk.setEnding(0, 1, -1, 1));
    }

    private static void promise4() {
        promise(4, "Sets the seam of a group, in place of another one.");
        ConcordDesk place = plain(18, 17);
        place.setEnding(0, 0, 1, 5);
        place.setSeam(0, 8, 2);
        place.setSeam(0, 7, 3);
        seam("one seam at a time", place, 185, 135);
        promise(4, "`group`: the group, 0 to 3");
        range("setSeam group", 0, 3, group -> busy().setSeam(group, 1, 2));
        promise(4, "`last`: the letter that is changed, 1 to 8, or 0 for no seam");
        range("setSeam last", 0, 8, last -> busy().setSeam(0, last, 1));
        for (int last = 0; last <= 8; last++) {
            ConcordDesk letters = plain(18, 11);
            letters.setEnding(0, 0, 1, 5);
            letters.setSeam(0, last, 4);
            seam("the letter " + last + " is changed", letters, last == 8 ? 145 : 185, last == 1 ? 145 : 115);
        }
        promise(4, "`becomes`: the letter that it becomes, 1 to 8, or 0 for nothing; of no meaning without a seam");
        range("setSeam becomes", 0, 8, becomes -> busy().setSeam(0, 1, becomes));
        for (int becomes : new int[] {-1, 0, 8, 9, LEAST, MOST}) {
            takes("no seam that becomes " + becomes, () -> busy().setSeam(0, 0, becomes));
        }
        ConcordDesk letters = plain(18);
        letters.setEnding(0, 0, 1, 5);
        for (int becomes = 0; becomes <= 8; becomes++) {
            letters.setSeam(0, 8, becomes);
            seam("it becomes " + becomes, letters, becomes == 0 ? 15 : 105 + 10 * becomes);
        }
        promise(4, "Returns the letter that was changed before, or 0.");
        ConcordDesk seams = new ConcordDesk();
        same("none before", 0, seams.setSeam(3, 0, 5));
        same("still none before", 0, seams.setSeam(3, 8, 0));
        same("8 before", 8, seams.setSeam(3, 1, 8));
        same("1 before", 1, seams.setSeam(3, 1, 1));
        same("none in another group", 0, seams.setSeam(2, 5, 5));
        same("1 before", 1, seams.setSeam(3, 0, 0));
        same("none again", 0, seams.setSeam(3, 0, 0));
        promise(4, "if the group or the letter is out of range, or, with a seam, what it becomes");
        refused("seam group", ILLEGAL, BoundaryTest::busy, desk -> desk.setSeam(-1, 3, 1));
        refused("seam group, no seam", ILLEGAL, BoundaryTest::busy, desk -> desk.setSeam(4, 0, 0));
        refused("seam letter", ILLEGAL, BoundaryTest::busy, desk -> desk.setSeam(0, -1, 1));
        refused("seam letter", ILLEGAL, BoundaryTest::busy, desk -> desk.setSeam(0, 9, 1));
        refused("seam becomes", ILLEGAL, BoundaryTest::busy, desk -> desk.setSeam(0, 3, -1));
        refused("seam becomes", ILLEGAL, BoundaryTest::busy, desk -> desk.setSeam(0, 3, 9));
    }

    private static void promise5() {
        promise(5, "`root`: the number of the root");
        for (int count = 0; count <= 10; count++) {
            ConcordDesk desk = many(count);
            indexes("form with " + count + " roots", count, root -> desk.form(root, 0, 0));
        }
        promise(5, "`number`: the number, 0 or 1");
        range("form number", 0, 1, number -> many(1).form(0, number, 0));
        promise(5, "`form`: the case, 0 to 2");
        range("form case", 0, 2, form -> many(1).form(0, 0, form));
        promise(5, "Returns the word.");
        ConcordDesk forms = plain(1, 8888);
        forms.setEnding(0, 1, 2, 88);
        same("the shortest word", 1, forms.form(0, 0, 0));
        same("the longest word", 888888, forms.form(1, 1, 2));
        promise(5, "if there is no such root");
        refused("form -1", OUTSIDE, BoundaryTest::busy, desk -> desk.form(-1, 0, 0));
        refused("form 6", OUTSIDE, BoundaryTest::busy, desk -> desk.form(6, 0, 0));
        refused("form 10", OUTSIDE, BoundaryTest::full, desk -> desk.form(10, 0, 0));
        promise(5, "if there is no such number or case");
        refused("form number -1", ILLEGAL, BoundaryTest::busy, desk -> desk.form(0, -1, 0));
        refused("form number 2", ILLEGAL, BoundaryTest::busy, desk -> desk.form(0, 2, 0));
        refused("form case -1", ILLEGAL, BoundaryTest::busy, desk -> desk.form(0, 1, -1));
        refused("form case 3", ILLEGAL, BoundaryTest::busy, desk -> desk.form(0, 0, 3));
        promise(5, "if its group has no such ending");
        refused("form without an ending", NONE, BoundaryTest::busy, desk -> desk.form(0, 1, 0));
        refused("form without endings", NONE, BoundaryTest::busy, desk -> desk.form(5, 1, 2));
        ConcordDesk without = plain(1);
        raises("another number", NONE, () -> without.form(0, 1, 0));
        raises("another case", NONE, () -> without.form(0, 0, 1));
        same("an empty ending is one", 1, without.form(0, 0, 0));
    }

    private static void promise6() {
        promise(6, "`word`: the word");
        words("readings", busy()::readings);
        promise(6, "Returns the number of readings.");
        ConcordDesk some = many(0);
        same("no readings", 0, some.readings(1));
        for (int root = 1; root <= 10; root++) {
            some.addRoot(0, 0, 0, 1);
            same("readings of " + root + " roots", 6 * root, some.readings(1));
        }
        same("one reading", 1, plain(1).readings(1));
        promise(6, "if it is no word");
        refused("readings 0", ILLEGAL, BoundaryTest::busy, desk -> desk.readings(0));
        noWords("readings", busy()::readings);
    }

    private static void promise7() {
        promise(7, "`word`: the word");
        for (int word : EDGE_WORDS) {
            int root = word > 8888 ? 1111 : word;
            ConcordDesk desk = plain(root);
            same("reading of " + root, 0, desk.reading(root, 0));
            raises("reading of an unknown word", OUTSIDE, () -> desk.reading(word == root ? 8888888 : word, 0));
        }
        promise(7, "`index`: the index, from 0");
        for (int count = 0; count <= 10; count++) {
            ConcordDesk desk = many(count);
            indexes("reading with " + 6 * count + " readings", 6 * count, index -> desk.reading(1, index));
        }
        promise(7, "Returns the reading.");
        ConcordDesk all = many(10);
        same("the first reading", 0, all.reading(1, 0));
        same("the last one of a root", 5, all.reading(1, 5));
        same("the first one of the next root", 10, all.reading(1, 6));
        same("the last reading", 95, all.reading(1, 59));
        promise(7, "if it is no word");
        refused("reading 0", ILLEGAL, BoundaryTest::busy, desk -> desk.reading(0, 0));
        noWords("reading", word -> all.reading(word, 0));
        promise(7, "if there is no such index");
        refused("reading -1", OUTSIDE, BoundaryTest::busy, desk -> desk.reading(13, -1));
        refused("reading 2", OUTSIDE, BoundaryTest::busy, desk -> desk.reading(13, desk.readings(13)));
        refused("reading 0 of none", OUTSIDE, BoundaryTest::busy, desk -> desk.reading(8888888, 0));
    }

    private static void promise8() {
        promise(8, "`word`: the word");
        ConcordDesk eight = new ConcordDesk();
        for (int cell = 0; cell < 8; cell++) {
            eight.setEnding(cell / 6, cell / 3 % 2, cell % 3, cell + 1);
        }
        for (int word : EDGE_WORDS) {
            int cell = word % 10 - 1;
            Object due = word < 10 ? NONE : (Object) (cell / 6 * 10 + cell % 6);
            same("guess of " + word, due, answer(() -> eight.guess(word)));
        }
        promise(8, "Returns 10 times the group plus 3 times the number plus the case.");
        for (int cell = 0; cell < 24; cell++) {
            ConcordDesk desk = new ConcordDesk();
            desk.setEnding(cell / 6, cell / 3 % 2, cell % 3, 88);
            same("the guess " + cell, cell / 6 * 10 + cell / 3 % 2 * 3 + cell % 3, desk.guess(188));
        }
        promise(8, "if it is no word");
        refused("guess 0", ILLEGAL, BoundaryTest::busy, desk -> desk.guess(0));
        noWords("guess", busy()::guess);
        promise(8, "if it is known");
        refused("guess of a known word", STATE, BoundaryTest::busy, desk -> desk.guess(13));
        ConcordDesk known = new ConcordDesk();
        known.setEnding(0, 0, 0, 2);
        same("not yet known", 0, known.guess(12));
        known.addRoot(0, 0, 0, 1);
        raises("known", STATE, () -> known.guess(12));
        known.setEnding(1, 0, 0, 2);
        known.setEnding(0, 0, 0, 3);
        same("no more known", 10, known.guess(12));
        promise(8, "if there is no such ending");
        refused("guess without an ending", NONE, BoundaryTest::busy, desk -> desk.guess(8888888));
        raises("no endings", NONE, () -> new ConcordDesk().guess(88));
        raises("an empty ending", NONE, () -> plain().guess(88));
        raises("one that is no shorter", NONE, () -> known.guess(2));
    }

    private static void promise9() {
        promise(9, "`first`: a word");
        words("cost first", word -> busy().cost(word, 1));
        promise(9, "`second`: another word");
        words("cost second", word -> busy().cost(1, word));
        promise(9, "Returns the cost.");
        ConcordDesk asked = new ConcordDesk();
        same("the least cost", 0, asked.cost(1234567, 1234567));
        same("the least cost of two words", 1, asked.cost(1234567, 1234568));
        same("the highest cost", 14, asked.cost(1111111, 3333333));
        same("the highest cost of two lengths", 14, asked.cost(8, 1111111));
        promise(9, "if one is no word");
        refused("cost 0, 1", ILLEGAL, BoundaryTest::busy, desk -> desk.cost(0, 1));
        refused("cost 1, 0", ILLEGAL, BoundaryTest::busy, desk -> desk.cost(1, 0));
        noWords("cost first", word -> asked.cost(word, 8888888));
        noWords("cost second", word -> asked.cost(8888888, word));
        noWords("cost of both", word -> asked.cost(word, word));
    }

    private static void promise10() {
        promise(10, "`word`: the word");
        words("suggestions", busy()::suggestions);
        promise(10, "Returns the number, 0 to 5.");
        ConcordDesk some = plain();
        for (int count = 0; count < 8; count++) {
            same("suggestions of " + count + " near words", Math.min(5, count), some.suggestions(18));
            some.addRoot(0, 0, 0, 11 + count % 7);
        }
        same("suggestions of 7 near words, one of two roots", 5, some.suggestions(18));
        promise(10, "if it is no word");
        refused("suggestions 0", ILLEGAL, BoundaryTest::busy, desk -> desk.suggestions(0));
        noWords("suggestions", busy()::suggestions);
    }

    private static void promise11() {
        promise(11, "`word`: the word");
        ConcordDesk near = new ConcordDesk();
        near.setEnding(0, 0, 0, 0);
        near.setEnding(0, 0, 1, 88);
        near.addRoot(0, 0, 0, 8888);
        near.addRoot(0, 0, 0, 2);
        same("a suggestion for the lowest word", 2, near.suggestion(1, 0));
        same("a suggestion for the highest word", 888888, near.suggestion(8888888, 0));
        promise(11, "`index`: the index, from 0");
        ConcordDesk many = plain();
        for (int count = 0; count < 8; count++) {
            indexes("suggestion of " + count, Math.min(5, count), index -> many.suggestion(18, index));
            many.addRoot(0, 0, 0, 11 + count % 7);
        }
        promise(11, "Returns the word that is suggested.");
        same("the first one", 17, many.suggestion(18, 0));
        same("the last one", 14, many.suggestion(18, 4));
        promise(11, "if it is no word");
        refused("suggestion of 0", ILLEGAL, BoundaryTest::busy, desk -> desk.suggestion(0, 0));
        noWords("suggestion", word -> many.suggestion(word, 0));
        promise(11, "if there is no such index");
        refused("suggestion -1", OUTSIDE, BoundaryTest::busy, desk -> desk.suggestion(14, -1));
        refused("suggestion 5", OUTSIDE, BoundaryTest::busy, desk -> desk.suggestion(14, 5));
        refused("suggestion behind the last", OUTSIDE, BoundaryTest::busy,
                desk -> desk.suggestion(14, desk.suggestions(14)));
        refused("suggestion of none", OUTSIDE, BoundaryTest::busy, desk -> desk.suggestion(8888888, 0));
    }

    /** A desk with some tokens, 1 to 8 and again. */
    private static ConcordDesk counted(int tokens) {
        ConcordDesk desk = new ConcordDesk();
        for (int i = 0; i < tokens; i++) {
            desk.insert(i, i % 8 + 1);
        }
        return desk;
    }

    private static String row(ConcordDesk desk) {
        StringBuilder row = new StringBuilder();
        for (int place = 0; place < desk.tokens(); place++) {
            row.append(desk.token(place));
        }
        return row.toString();
    }

    private static void promise12() {
        promise(12, "`place`: the place, 0 to the number of tokens");
        for (int count = 0; count <= 9; count++) {
            for (int place = 0; place <= count; place++) {
                ConcordDesk desk = counted(count);
                String before = row(desk);
                desk.insert(place, 88);
                same("insert at " + place, before.substring(0, place) + "88" + before.substring(place), row(desk));
            }
            ConcordDesk desk = counted(count);
            for (int place : new int[] {-1, count + 1, LEAST, MOST}) {
                raises("insert at " + place + " beside " + count, OUTSIDE, () -> desk.insert(place, 1));
            }
        }
        promise(12, "`token`: a word, or 0 for a stop");
        tokens("insert", token -> counted(9).insert(9, token));
        promise(12, "Returns the number of tokens.");
        ConcordDesk count = new ConcordDesk();
        for (int tokens = 1; tokens <= 10; tokens++) {
            same("insert", tokens, count.insert(0, tokens % 2));
        }
        promise(12, "if there is no such place");
        refused("insert at -1", OUTSIDE, BoundaryTest::busy, desk -> desk.insert(-1, 1));
        refused("insert at 9", OUTSIDE, BoundaryTest::busy, desk -> desk.insert(9, 1));
        refused("insert at 11", OUTSIDE, BoundaryTest::full, desk -> desk.insert(11, 1));
        promise(12, "if it is no token");
        refused("insert 9", ILLEGAL, BoundaryTest::busy, desk -> desk.insert(8, 9));
        refused("insert -1", ILLEGAL, BoundaryTest::busy, desk -> desk.insert(0, -1));
        refused("insert 11111111", ILLEGAL, BoundaryTest::full, desk -> desk.insert(0, 11111111));
        noTokens("insert", token -> counted(10).insert(0, token));
        promise(12, "if there are 10 tokens");
        takes("a tenth token", () -> counted(9).insert(0, 1));
        refused("an eleventh token at the start", STATE, () -> tenTokens(busy()), desk -> desk.insert(0, 1));
        refused("an eleventh token between", STATE, () -> tenTokens(busy()), desk -> desk.insert(5, 8888888));
        refused("an eleventh token at the end", STATE, BoundaryTest::full, desk -> desk.insert(10, 0));
    }

    private static void promise13() {
        promise(13, "`place`: the place, from 0");
        for (int tokens = 0; tokens <= 10; tokens++) {
            int of = tokens;
            indexes("remove of " + tokens, tokens, place -> counted(of).remove(place));
        }
        promise(13, "Returns the token.");
        same("remove the first of ten", 1, counted(10).remove(0));
        same("remove the last of ten", 2, counted(10).remove(9));
        for (int place = 0; place < 10; place++) {
            ConcordDesk desk = counted(10);
            String before = row(desk);
            desk.remove(place);
            same("remove at " + place, before.substring(0, place) + before.substring(place + 1), row(desk));
        }
        ConcordDesk stop = new ConcordDesk();
        stop.insert(0, 0);
        same("remove a stop", 0, stop.remove(0));
        same("nothing is left", 0, stop.tokens());
        promise(13, "if there is no token at this place");
        refused("remove -1", OUTSIDE, BoundaryTest::busy, desk -> desk.remove(-1));
        refused("remove 8 of 8", OUTSIDE, BoundaryTest::busy, desk -> desk.remove(8));
        refused("remove 10 of 10", OUTSIDE, BoundaryTest::full, desk -> desk.remove(10));
        refused("remove of nothing", OUTSIDE, ConcordDesk::new, desk -> desk.remove(0));
    }

    private static void promise14() {
        promise(14, "`place`: the place, from 0");
        for (int tokens = 0; tokens <= 10; tokens++) {
            ConcordDesk desk = counted(tokens);
            indexes("replace of " + tokens, tokens, place -> desk.replace(place, 1));
        }
        promise(14, "`token`: a word, or 0 for a stop");
        tokens("replace", token -> counted(10).replace(9, token));
        promise(14, "Returns the token before.");
        ConcordDesk before = counted(10);
        same("the first one before", 1, before.replace(0, 0));
        same("a stop before", 0, before.replace(0, 8888888));
        same("the highest word before", 8888888, before.replace(0, 8888888));
        same("the last one before", 2, before.replace(9, 1));
        same("the last one before", 1, before.replace(9, 0));
        promise(14, "if there is no token at this place");
        refused("replace -1", OUTSIDE, BoundaryTest::busy, desk -> desk.replace(-1, 1));
        refused("replace 8 of 8", OUTSIDE, BoundaryTest::busy, desk -> desk.replace(8, 1));
        refused("replace 10 of 10", OUTSIDE, BoundaryTest::full, desk -> desk.replace(10, 1));
        refused("replace of nothing", OUTSIDE, ConcordDesk::new, desk -> desk.replace(0, 1));
        promise(14, "if it is no token");
        refused("replace by 9", ILLEGAL, BoundaryTest::busy, desk -> desk.replace(0, 9));
        refused("replace by -1", ILLEGAL, BoundaryTest::full, desk -> desk.replace(9, -1));
        noTokens("replace", token -> counted(10).replace(0, token));
    }

    /** A text with some sentences of one word each. */
    private static ConcordDesk parted(int sentences) {
        ConcordDesk desk = new ConcordDesk();
        for (int i = 0; i < 2 * sentences; i++) {
            desk.insert(i, i % 2);
        }
        return desk;
    }

    private static void promise15() {
        promise(15, "Returns the number of tokens.");
        for (int count = 0; count <= 10; count++) {
            same("tokens", count, counted(count).tokens());
        }
        ConcordDesk back = counted(10);
        for (int count = 9; count >= 0; count--) {
            back.remove(count);
            same("tokens behind a remove", count, back.tokens());
        }
    }

    private static void promise16() {
        promise(16, "`place`: the place, from 0");
        for (int count = 0; count <= 10; count++) {
            indexes("token of " + count, count, counted(count)::token);
        }
        promise(16, "Returns the token.");
        ConcordDesk edges = counted(10);
        edges.replace(0, 8888888);
        edges.replace(9, 0);
        same("the first token", 8888888, edges.token(0));
        same("the last token, a stop", 0, edges.token(9));
        promise(16, "if there is no token at this place");
        refused("token -1", OUTSIDE, BoundaryTest::busy, desk -> desk.token(-1));
        refused("token 8 of 8", OUTSIDE, BoundaryTest::busy, desk -> desk.token(8));
        refused("token 10 of 10", OUTSIDE, BoundaryTest::full, desk -> desk.token(10));
    }

    private static void promise17() {
        promise(17, "Returns the number of sentences.");
        same("no tokens", 0, new ConcordDesk().sentences());
        for (int count = 0; count <= 5; count++) {
            same("sentences", count, parted(count).sentences());
        }
        same("one of ten words", 1, counted(10).sentences());
        ConcordDesk stops = new ConcordDesk();
        write(stops, 0, 0, 0, 0, 0, 0, 0, 0, 0, 0);
        same("ten stops", 0, stops.sentences());
    }

    private static void promise18() {
        promise(18, "`sentence`: the number of the sentence");
        for (int count = 0; count <= 5; count++) {
            indexes("from of " + count, count, parted(count)::from);
        }
        promise(18, "Returns the place.");
        same("the first place", 0, counted(10).from(0));
        same("the last place", 9, parted(5).from(4));
        promise(18, "if there is no such sentence");
        refused("from -1", OUTSIDE, BoundaryTest::busy, desk -> desk.from(-1));
        refused("from 3 of 3", OUTSIDE, BoundaryTest::busy, desk -> desk.from(3));
        raises("from of nothing", OUTSIDE, () -> new ConcordDesk().from(0));
    }

    private static void promise19() {
        promise(19, "`sentence`: the number of the sentence");
        for (int count = 0; count <= 5; count++) {
            indexes("words of " + count, count, parted(count)::words);
        }
        promise(19, "Returns the number of words.");
        same("the fewest words", 1, parted(5).words(4));
        for (int count = 1; count <= 10; count++) {
            same("words", count, counted(count).words(0));
        }
        promise(19, "if there is no such sentence");
        refused("words -1", OUTSIDE, BoundaryTest::busy, desk -> desk.words(-1));
        refused("words 3 of 3", OUTSIDE, BoundaryTest::busy, desk -> desk.words(3));
        raises("words of nothing", OUTSIDE, () -> new ConcordDesk().words(0));
    }

    private static void promise20() {
        promise(20, "`ahead`: the kind ahead, 0 to 2");
        range("addCut ahead", 0, 2, ahead -> busy().addCut(ahead, 0));
        promise(20, "`kind`: the kind, 0 to 2");
        range("addCut kind", 0, 2, kind -> busy().addCut(0, kind));
        promise(20, "Returns the number of cuts.");
        ConcordDesk cuts = new ConcordDesk();
        for (int count = 1; count <= 6; count++) {
            same("cuts", count, cuts.addCut(0, 0));
        }
        promise(20, "if a kind is out of range");
        refused("addCut ahead -1", ILLEGAL, BoundaryTest::busy, desk -> desk.addCut(-1, 0));
        refused("addCut ahead 3", ILLEGAL, BoundaryTest::busy, desk -> desk.addCut(3, 0));
        refused("addCut kind -1", ILLEGAL, BoundaryTest::busy, desk -> desk.addCut(0, -1));
        refused("addCut kind 3", ILLEGAL, BoundaryTest::full, desk -> desk.addCut(0, 3));
        promise(20, "if there are 6 cuts");
        raises("a seventh cut", STATE, () -> cuts.addCut(0, 0));
        refused("a seventh cut", STATE, () -> sixCuts(busy()), desk -> desk.addCut(2, 2));
        refused("a seventh cut where all is full", STATE, BoundaryTest::full, desk -> desk.addCut(0, 1));
    }

    private static void promise21() {
        promise(21, "`makes`: the category that it makes, 3 to 7");
        range("addRule makes", 3, 7, makes -> busy().addRule(makes, 0, 0, 0, false));
        promise(21, "`first`: the first category, 0 to 7");
        range("addRule first", 0, 7, first -> busy().addRule(7, first, 0, 0, false));
        promise(21, "`second`: the second one, 0 to 7");
        range("addRule second", 0, 7, second -> busy().addRule(7, 0, second, 0, false));
        promise(21, "`agree`: in what they agree, 0 to 7");
        range("addRule agree", 0, 7, agree -> busy().addRule(7, 0, 0, agree, false));
        promise(21, "`isSecond`: whether the second one is the head");
        for (int isSecond = 0; isSecond < 2; isSecond++) {
            ConcordDesk desk = numbers();
            desk.addRule(3, 1, 0, 0, isSecond == 1);
            desk.addRule(7, 0, 3, 2, false);
            write(desk, 1, 54, 1);
            same("the head is of the number 0", (long) isSecond, desk.trees(0));
        }
        promise(21, "Returns the number of rules; this is its weight.");
        ConcordDesk rules = plain(1);
        write(rules, 1, 1);
        for (int count = 1; count <= 12; count++) {
            same("rules", count, rules.addRule(count % 12 == 0 ? 7 : 6, 0, 0, 0, false));
        }
        same("the weight of the last one", 12, rules.best(0));
        promise(21, "if a number is out of range");
        int[][] wrongRules = {{2, 0, 0, 0}, {8, 0, 0, 0}, {7, -1, 0, 0}, {7, 8, 0, 0}, {7, 0, -1, 0}, {7, 0, 8, 0},
            {7, 0, 0, -1}, {7, 0, 0, 8}};
        for (int[] r : wrongRules) {
            refused("addRule", ILLEGAL, BoundaryTest::busy, desk -> desk.addRule(r[0], r[1], r[2], r[3], false));
            refused("addRule", ILLEGAL, BoundaryTest::full, desk -> desk.addRule(r[0], r[1], r[2], r[3], true));
        }
        promise(21, "if there are 12 rules");
        raises("a thirteenth rule", STATE, () -> rules.addRule(7, 0, 0, 0, false));
        refused("a thirteenth rule", STATE, () -> twelveRules(busy()), desk -> desk.addRule(7, 7, 7, 7, true));
        refused("a thirteenth rule where all is full", STATE, BoundaryTest::full,
                desk -> desk.addRule(3, 0, 0, 0, false));
    }

    private static void promise22() {
        promise(22, "`place`: the place, from 0");
        for (int count = 0; count <= 10; count++) {
            indexes("left of " + count, count, counted(count)::left);
        }
        promise(22, "Returns the number of readings, 0 for a stop.");
        ConcordDesk left = many(10);
        write(left, 1, 0, 2, 1);
        lefts("all readings, a stop, an unknown word", left, 60, 0, 0, 60);
        left.replace(0, 0);
        left.replace(1, 1);
        lefts("a stop where a word was", left, 0, 60, 0, 60);
        promise(22, "if there is no token at this place");
        refused("left -1", OUTSIDE, BoundaryTest::busy, desk -> desk.left(-1));
        refused("left 8 of 8", OUTSIDE, BoundaryTest::busy, desk -> desk.left(8));
        refused("left 10 of 10", OUTSIDE, BoundaryTest::full, desk -> desk.left(10));
    }

    /** The word 1 has 32 readings, 2 has 4 and 3 has 8; a rule joins two words, and four one more with these. */
    private static ConcordDesk powers() {
        ConcordDesk desk = many(5);
        desk.setEnding(1, 0, 0, 0);
        desk.setEnding(1, 1, 2, 0);
        desk.addRoot(0, 1, 0, 1);
        desk.addRoot(0, 1, 1, 2);
        desk.addRoot(0, 1, 2, 2);
        desk.addRoot(0, 0, 0, 3);
        desk.addRoot(0, 1, 1, 3);
        desk.addRule(7, 0, 0, 0, false);
        for (int rule = 0; rule < 4; rule++) {
            desk.addRule(7, 7, 0, 0, rule % 2 == 0);
        }
        return desk;
    }

    private static void goingRound() {
        ConcordDesk desk = powers();
        write(desk, 1, 1);
        BigInteger due = BigInteger.ONE.shiftLeft(10);
        for (int words = 2; words <= 9; words++) {
            same("trees of " + words + " words", due.longValueExact(), desk.trees(0));
            desk.insert(0, 1);
            due = due.shiftLeft(7);
        }
        desk.replace(9, 2);
        same("2 to the 63 goes round", Long.MIN_VALUE, desk.trees(0));
        same("and is a number of trees", '-', desk.fault(0));
        desk.replace(9, 3);
        same("2 to the 64 goes round", 0L, desk.trees(0));
        same("and is a number of trees", '-', desk.fault(0));
        same("and there is no badness", 0, desk.badness());
        desk.replace(9, 1);
        same("2 to the 66 goes round", 0L, desk.trees(0));
        ConcordDesk odd = many(9);
        odd.addRule(7, 0, 0, 0, false);
        for (int rule = 0; rule < 11; rule++) {
            odd.addRule(7, 7, 0, 0, rule % 2 == 0);
        }
        write(odd, 1);
        BigInteger trees = BigInteger.valueOf(54);
        for (int words = 2; words <= 10; words++) {
            odd.insert(0, 1);
            trees = trees.multiply(BigInteger.valueOf(words == 2 ? 54 : 54 * 11));
            same("trees of " + words + " words, as longs go round", trees.longValue(), odd.trees(0));
        }
    }

    private static void promise23() {
        promise(23, "`sentence`: the number of the sentence");
        for (int count = 0; count <= 5; count++) {
            indexes("trees of " + count, count, parted(count)::trees);
        }
        promise(23, "Returns the number of trees, as longs go round.");
        goingRound();
        same("no rules, no trees", 0L, parted(1).trees(0));
        promise(23, "if there is no such sentence");
        refused("trees -1", OUTSIDE, BoundaryTest::busy, desk -> desk.trees(-1));
        refused("trees 3 of 3", OUTSIDE, BoundaryTest::busy, desk -> desk.trees(3));
        raises("trees of nothing", OUTSIDE, () -> new ConcordDesk().trees(0));
    }

    private static void promise24() {
        promise(24, "`sentence`: the number of the sentence");
        for (int count = 0; count <= 5; count++) {
            indexes("treesAnew of " + count, count, parted(count)::treesAnew);
        }
        promise(24, "Returns the number of trees.");
        ConcordDesk most = many(10);
        write(most, 1);
        for (int rule = 0; rule < 12; rule++) {
            most.addRule(7, rule % 4 == 1 ? 7 : 0, rule % 4 == 3 ? 7 : 0, 0, rule % 3 == 0);
        }
        same("none for one word", 0L, most.treesAnew(0));
        most.insert(0, 1);
        same("two words with 60 readings", 6L * 60 * 60, most.treesAnew(0));
        most.insert(0, 1);
        same("three words with 60 readings", 36L * 60 * 60 * 60, most.treesAnew(0));
        promise(24, "if there is no such sentence");
        refused("treesAnew -1", OUTSIDE, BoundaryTest::busy, desk -> desk.treesAnew(-1));
        refused("treesAnew 3 of 3", OUTSIDE, BoundaryTest::busy, desk -> desk.treesAnew(3));
        raises("treesAnew of nothing", OUTSIDE, () -> new ConcordDesk().treesAnew(0));
        promise(24, "if it has more than 3 words");
        for (int words = 1; words <= 10; words++) {
            int of = words;
            Object due = words > 3 ? UNABLE : (Object) 0L;
            same("treesAnew of " + words + " words", due, answer(() -> counted(of).treesAnew(0)));
        }
        refused("treesAnew of 10 words", UNABLE, () -> counted(10), desk -> desk.treesAnew(0));
        ConcordDesk other = counted(8);
        other.replace(4, 0);
        raises("the first sentence has 4 words", UNABLE, () -> other.treesAnew(0));
        same("the second one has 3", 0L, other.treesAnew(1));
    }

    private static void promise25() {
        promise(25, "`sentence`: the number of the sentence");
        ConcordDesk five = plain(1);
        five.addRule(7, 0, 0, 0, false);
        for (int count = 0; count <= 3; count++) {
            indexes("best of " + count, count, five::best);
            if (count < 3) {
                five.insert(five.tokens(), 1);
                five.insert(five.tokens(), 1);
                five.insert(five.tokens(), 0);
            }
        }
        promise(25, "Returns the weight.");
        ConcordDesk least = plain(1);
        for (int rule = 1; rule <= 10; rule++) {
            least.addRule(3, 7, 7, 0, false);
        }
        least.addRule(7, 0, 7, 0, false);
        least.addRule(7, 0, 0, 0, false);
        write(least, 1, 1, 1, 1, 1, 1, 1, 1, 1, 1);
        same("a high weight", 8 * 11 + 12, least.best(0));
        ConcordDesk low = plain(1);
        low.addRule(7, 0, 0, 0, false);
        low.addRule(7, 0, 0, 0, false);
        write(low, 1, 1);
        same("the lowest weight", 1, low.best(0));
        ConcordDesk round = powers();
        write(round, 1, 1, 1, 1, 1, 1, 1, 1, 1, 3);
        same("2 to the 64 trees are not none", 1 + 8 * 2, round.best(0));
        promise(25, "if there is no such sentence");
        refused("best -1", OUTSIDE, BoundaryTest::busy, desk -> desk.best(-1));
        refused("best 3 of 3", OUTSIDE, BoundaryTest::busy, desk -> desk.best(3));
        raises("best of nothing", OUTSIDE, () -> new ConcordDesk().best(0));
        promise(25, "if it has none");
        raises("best without rules", NONE, () -> counted(10).best(0));
        raises("best of one word", NONE, () -> parted(1).best(0));
        refused("best with an unknown word", NONE, BoundaryTest::busy, desk -> desk.best(1));
        ConcordDesk none = numbers();
        write(none, 1, 54);
        raises("best without an agreement", NONE, () -> none.best(0));
        none.replace(1, 5);
        same("best with it", 1, none.best(0));
    }

    private static void promise26() {
        promise(26, "`sentence`: the number of the sentence");
        for (int count = 0; count <= 5; count++) {
            indexes("fault of " + count, count, parted(count)::fault);
        }
        promise(26, "Returns 'u', 'g' or '-'.");
        ConcordDesk three = numbers();
        write(three, 1, 5, 0, 1, 54, 0, 1, 55);
        same("no fault", '-', three.fault(0));
        same("fault of grammar", 'g', three.fault(1));
        same("fault of an unknown word", 'u', three.fault(2));
        promise(26, "if there is no such sentence");
        refused("fault -1", OUTSIDE, BoundaryTest::busy, desk -> desk.fault(-1));
        refused("fault 3 of 3", OUTSIDE, BoundaryTest::busy, desk -> desk.fault(3));
        raises("fault of nothing", OUTSIDE, () -> new ConcordDesk().fault(0));
    }

    private static void promise27() {
        promise(27, "Returns the sum.");
        same("an empty text", 0, numbers().badness());
        ConcordDesk three = numbers();
        write(three, 1, 5, 0, 1, 54, 0, 1, 55);
        same("of three sentences", 0 + 1 + 2, three.badness());
        same("of five unknown words", 10, parted(5).badness());
        same("of ten unknown words", 20, counted(10).badness());
        ConcordDesk five = plain(1);
        write(five, 1, 0, 1, 0, 1, 0, 1, 0, 1, 0);
        same("of five sentences with 'g'", 5, five.badness());
    }

    private static void promise28() {
        promise(28, "Returns the number of edits.");
        same("an empty text", 0, numbers().edits());
        same("no suggestions", 0, counted(10).edits());
        ConcordDesk one = plain(77);
        write(one, 78);
        same("one", 1, one.edits());
        for (int words = 1; words <= 10; words++) {
            ConcordDesk many = plain(11, 12, 13, 14, 15);
            for (int i = 0; i < words; i++) {
                many.insert(0, 16);
            }
            same("five for each of " + words + " words", Math.min(30, 5 * words), many.edits());
        }
    }

    /** A text with some edits, up to 30 of them. */
    private static ConcordDesk edited(int edits) {
        ConcordDesk desk = plain(11, 12, 13, 14, 15, 77);
        for (int i = 0; i < edits / 5; i++) {
            desk.insert(0, 16);
        }
        for (int i = 0; i < edits % 5; i++) {
            desk.insert(desk.tokens(), 78);
        }
        return desk;
    }

    private static void promise29() {
        promise(29, "`index`: the index, from 0");
        for (int count : EDIT_COUNTS) {
            indexes("editPlace of " + count, count, edited(count)::editPlace);
        }
        indexes("editPlace of more than 30", 30, edited(46)::editPlace);
        promise(29, "Returns the place.");
        same("the first place", 0, edited(30).editPlace(0));
        same("the last place of 30", 5, edited(30).editPlace(29));
        ConcordDesk last = plain(77);
        write(last, 0, 0, 0, 0, 0, 0, 0, 0, 0, 78);
        same("the last place of a text", 9, last.editPlace(0));
        promise(29, "if there is no such index");
        refused("editPlace -1", OUTSIDE, BoundaryTest::busy, desk -> desk.editPlace(-1));
        refused("editPlace behind the last", OUTSIDE, BoundaryTest::busy, desk -> desk.editPlace(desk.edits()));
        refused("editPlace of none", OUTSIDE, ConcordDesk::new, desk -> desk.editPlace(0));
        refused("editPlace 30", OUTSIDE, () -> edited(46), desk -> desk.editPlace(30));
    }

    private static void promise30() {
        promise(30, "`index`: the index, from 0");
        for (int count : EDIT_COUNTS) {
            indexes("editWord of " + count, count, edited(count)::editWord);
        }
        indexes("editWord of more than 30", 30, edited(46)::editWord);
        promise(30, "Returns the word.");
        same("the first word", 11, edited(30).editWord(0));
        same("the last word of 30", 15, edited(30).editWord(29));
        same("the last word of 29", 77, edited(29).editWord(28));
        promise(30, "if there is no such index");
        refused("editWord -1", OUTSIDE, BoundaryTest::busy, desk -> desk.editWord(-1));
        refused("editWord behind the last", OUTSIDE, BoundaryTest::busy, desk -> desk.editWord(desk.edits()));
        refused("editWord of none", OUTSIDE, ConcordDesk::new, desk -> desk.editWord(0));
        refused("editWord 30", OUTSIDE, () -> edited(46), desk -> desk.editWord(30));
    }

    private static void promise31() {
        promise(31, "Makes an edit: its word takes the place of the token.");
        for (int index = 0; index < 30; index += 29) {
            ConcordDesk desk = edited(46);
            int place = desk.editPlace(index);
            int word = desk.editWord(index);
            String before = row(desk);
            desk.apply(index);
            same("as many tokens", 10, desk.tokens());
            String due = before.substring(0, 2 * place) + word + before.substring(2 * place + 2);
            same("the word stands there", due, row(desk));
        }
        promise(31, "`index`: the index, from 0");
        for (int count : EDIT_COUNTS) {
            int of = count;
            indexes("apply of " + count, count, index -> edited(of).apply(index));
        }
        indexes("apply of more than 30", 30, index -> edited(46).apply(index));
        promise(31, "Returns the badness before less the badness then.");
        ConcordDesk less = numbers();
        write(less, 1, 54);
        same("from 1 to 0", 1, less.apply(0));
        write(less, 55);
        same("from 2 to 1", 1, less.apply(0));
        write(less, 1, 55);
        same("from 2 to 0", 2, less.apply(0));
        write(less, 55, 55);
        same("from 4 to 2", 2, less.apply(0));
        write(less, 55, 0, 7777, 0, 1, 54);
        same("beside other sentences", 1, less.apply(0));
        same("at the most, and all others unknown", 2, edited(46).apply(29));
        promise(31, "if there is no such index");
        refused("apply -1", OUTSIDE, BoundaryTest::busy, desk -> desk.apply(-1));
        refused("apply behind the last", OUTSIDE, BoundaryTest::busy, desk -> desk.apply(desk.edits()));
        refused("apply of none", OUTSIDE, ConcordDesk::new, desk -> desk.apply(0));
        refused("apply 30", OUTSIDE, () -> edited(46), desk -> desk.apply(30));
    }

    private static void promise32() {
        promise(32, "Returns their number divided by that of all words, both converted to float.");
        for (int all = 1; all <= 10; all++) {
            ConcordDesk desk = plain(1);
            for (int i = 0; i < all; i++) {
                desk.insert(0, 2);
            }
            same("none of " + all, 0f, desk.knownShare());
            for (int known = 1; known <= all; known++) {
                desk.replace(known - 1, 1);
                same(known + " of " + all, (float) known / (float) all, desk.knownShare());
            }
        }
        ConcordDesk stops = plain(1);
        write(stops, 0, 1, 0, 2, 0, 2, 0);
        same("stops are no words", 1f / 3f, stops.knownShare());
        promise(32, "if there are no words");
        raises("knownShare of nothing", ARITHMETIC, () -> new ConcordDesk().knownShare());
        refused("knownShare of stops", ARITHMETIC, BoundaryTest::tenStops, ConcordDesk::knownShare);
    }

    private static void promise33() {
        promise(33, "Returns their sum divided by the number of words, both converted to double.");
        ConcordDesk readings = many(10);
        readings.insert(0, 2);
        same("none left", 0.0, readings.meanLeft());
        for (int all = 2; all <= 10; all++) {
            readings.insert(0, 2);
            readings.replace(all - 1, 1);
            same("60 of one word among " + all, 60.0 / all, readings.meanLeft());
            readings.replace(all - 1, 2);
        }
        write(readings, 1, 1, 1, 1, 1, 1, 1, 1, 1, 1);
        same("the highest mean", 60.0, readings.meanLeft());
        ConcordDesk thirds = kinds();
        write(thirds, 0, 1, 8, 0, 8, 0);
        same("a third, and stops are no words", 1.0 / 3.0, thirds.meanLeft());
        thirds.addCut(0, 1);
        write(thirds, 1, 4, 8, 8, 8, 8, 8);
        same("behind a cut", 3.0 / 7.0, thirds.meanLeft());
        promise(33, "if there are no words");
        raises("meanLeft of nothing", ARITHMETIC, () -> new ConcordDesk().meanLeft());
        refused("meanLeft of stops", ARITHMETIC, BoundaryTest::tenStops, ConcordDesk::meanLeft);
    }

    private static void promise34() {
        promise(34, "sentences with at most 3 words have the same number of trees by both ways; each");
        sound("nothing", new ConcordDesk());
        sound("ten stops", tenStops());
        sound("some of everything", busy());
        sound("all full", full());
        sound("2 edits", edited(2));
        sound("3 edits", edited(3));
        sound("4 edits", edited(4));
        sound("more than 30 edits", edited(46));
        sound("trees that go round", powers());
        for (int words = 1; words <= 4; words++) {
            ConcordDesk desk = many(10);
            desk.addRule(7, 0, 0, 0, false);
            desk.addRule(7, 7, 0, 0, true);
            for (int i = 0; i < words; i++) {
                desk.insert(0, 1);
            }
            sound(words + " words", desk);
        }
        promise(34, "Returns whether this holds.");
        ConcordDesk one = busy();
        ConcordDesk other = busy();
        same("it holds", true, one.isSound());
        same("asking changes nothing", picture(other), picture(one));
    }

    private static void sound(String what, ConcordDesk desk) {
        String before = lookAt(desk);
        same("sound: " + what, true, desk.isSound());
        same("asking changes nothing: " + what, before, lookAt(desk));
    }

    private static ConcordDesk tenStops() {
        ConcordDesk desk = numbers();
        write(desk, 0, 0, 0, 0, 0, 0, 0, 0, 0, 0);
        return desk;
    }
}
