import java.util.NoSuchElementException;

/** Each promise of the document: ordinary calls, the edges that it names, and wrong inputs. */
public final class PromiseTest {
    private static final Class<?> ILLEGAL = IllegalArgumentException.class;
    private static final Class<?> OUTSIDE = IndexOutOfBoundsException.class;
    private static final Class<?> STATE = IllegalStateException.class;
    private static final Class<?> NONE = NoSuchElementException.class;
    private static final Class<?> UNABLE = UnsupportedOperationException.class;
    private static final Class<?> ARITHMETIC = ArithmeticException.class;
    /** What is no word: no letters, a digit that is no letter, too many letters, a sign. */
    private static final int[] NO_WORDS = {0, -1, -12, 9, 10, 90, 19, 101, 1901, 11111111, 12345678, 100000000,
        Integer.MIN_VALUE, Integer.MAX_VALUE};

    private static int checks = 0;
    private static int wrong = 0;

    interface Call {
        Object on();
    }

    public static void main(String[] args) {
        newDesk();
        addRoot();
        setEnding();
        setSeam();
        form();
        seams();
        readings();
        guess();
        guessOrder();
        cost();
        suggestions();
        text();
        wrongText();
        sentences();
        addCut();
        cuts();
        addRule();
        left();
        trees();
        agreement();
        heads();
        manyFeatures();
        deepTrees();
        treesThatGoRound();
        treesAnew();
        best();
        fault();
        unknownEdits();
        grammarEdits();
        editOrder();
        mostEdits();
        editsBehindCuts();
        apply();
        editsFollowChanges();
        figures();
        isSound();
        failedCallsChangeNothing();
        System.out.println(checks + " checks, " + wrong + " are not as due");
        if (wrong != 0) {
            System.exit(1);
        }
    }

    private static void same(String what, Object want, Object got) {
        checks++;
        if (!want.equals(got)) {
            wrong++;
            System.out.println(what + ": " + got + ", due is " + want);
        }
    }

    private static void raises(String what, Class<?> want, Call call) {
        Object got;
        try {
            got = call.on();
        } catch (RuntimeException e) {
            got = e.getClass();
        }
        same(what, want, got);
    }

    /** A desk whose groups 0 to 3 have only an empty ending, for number 0 and case 0. */
    private static ConcordDesk plain() {
        ConcordDesk desk = new ConcordDesk();
        for (int group = 0; group < 4; group++) {
            desk.setEnding(group, 0, 0, 0);
        }
        return desk;
    }

    private static void write(ConcordDesk desk, int... tokens) {
        while (desk.tokens() > 0) {
            desk.remove(0);
        }
        for (int token : tokens) {
            desk.insert(desk.tokens(), token);
        }
    }

    private static void newDesk() {
        ConcordDesk desk = new ConcordDesk();
        same("new tokens", 0, desk.tokens());
        same("new sentences", 0, desk.sentences());
        same("new badness", 0, desk.badness());
        same("new edits", 0, desk.edits());
        same("new isSound", true, desk.isSound());
        same("new readings", 0, desk.readings(1));
        same("new suggestions", 0, desk.suggestions(1));
        raises("new form", OUTSIDE, () -> desk.form(0, 0, 0));
        raises("new guess", NONE, () -> desk.guess(11));
        for (int group = 0; group < 4; group++) {
            same("new seam", 0, desk.setSeam(group, 0, 0));
            for (int cell = 0; cell < 6; cell++) {
                same("new ending", -1, desk.setEnding(group, cell / 3, cell % 3, -1));
            }
        }
        same("new root", 0, desk.addRoot(0, 0, 0, 1));
        same("new cut", 1, desk.addCut(0, 0));
        same("new rule", 1, desk.addRule(7, 0, 0, 0, false));
        ConcordDesk other = new ConcordDesk();
        same("desks share no roots", 0, other.addRoot(0, 0, 0, 1));
        same("desks share no endings", -1, other.setEnding(0, 0, 0, 1));
        same("desks share no rules", 1, other.addRule(7, 0, 0, 0, false));
    }

    private static void addRoot() {
        ConcordDesk desk = plain();
        int[][] wrongNumbers = {{-1, 0, 0}, {3, 0, 0}, {0, -1, 0}, {0, 4, 0}, {0, 0, -1}, {0, 0, 3}};
        for (int[] n : wrongNumbers) {
            raises("addRoot number", ILLEGAL, () -> desk.addRoot(n[0], n[1], n[2], 1));
        }
        for (int word : NO_WORDS) {
            raises("addRoot " + word, ILLEGAL, () -> desk.addRoot(0, 0, 0, word));
        }
        raises("addRoot five letters", ILLEGAL, () -> desk.addRoot(0, 0, 0, 11111));
        int[] words = {1, 8, 88, 888, 8888, 1234, 5678, 1, 1, 1};
        for (int i = 0; i < 10; i++) {
            same("addRoot " + i, i, desk.addRoot(i % 3, i % 4, i % 3, words[i]));
        }
        raises("addRoot eleventh", STATE, () -> desk.addRoot(0, 0, 0, 1));
        raises("addRoot eleventh, no word", ILLEGAL, () -> desk.addRoot(0, 0, 0, 9));
        raises("addRoot eleventh, no kind", ILLEGAL, () -> desk.addRoot(3, 0, 0, 1));
        same("roots that are the same", 4, desk.readings(1));
        for (int i = 0; i < 10; i++) {
            same("form of root " + i, words[i], desk.form(i, 0, 0));
        }
    }

    private static void setEnding() {
        ConcordDesk desk = new ConcordDesk();
        int[][] wrongNumbers = {{-1, 0, 0}, {4, 0, 0}, {0, -1, 0}, {0, 2, 0}, {0, 0, -1}, {0, 0, 3}};
        for (int[] n : wrongNumbers) {
            raises("setEnding number", ILLEGAL, () -> desk.setEnding(n[0], n[1], n[2], 1));
        }
        for (int ending : new int[] {-2, 9, 10, 90, 19, 20, 111, 100, Integer.MIN_VALUE, Integer.MAX_VALUE}) {
            raises("setEnding " + ending, ILLEGAL, () -> desk.setEnding(0, 0, 0, ending));
        }
        same("ending none", -1, desk.setEnding(3, 1, 2, 0));
        same("ending empty", 0, desk.setEnding(3, 1, 2, 8));
        same("ending of a letter", 8, desk.setEnding(3, 1, 2, 88));
        same("ending of two letters", 88, desk.setEnding(3, 1, 2, 11));
        same("ending of two letters", 11, desk.setEnding(3, 1, 2, -1));
        same("ending none again", -1, desk.setEnding(3, 1, 2, -1));
        same("other endings", -1, desk.setEnding(3, 1, 1, -1));
        same("other groups", -1, desk.setEnding(2, 1, 2, -1));
        desk.addRoot(0, 1, 0, 5);
        desk.setEnding(1, 0, 2, 6);
        same("an ending makes forms of roots that stand", 56, desk.form(0, 0, 2));
        desk.setEnding(1, 0, 2, 7);
        same("another ending makes others", 57, desk.form(0, 0, 2));
        same("and the old form is not known", 0, desk.readings(56));
    }

    private static void setSeam() {
        ConcordDesk desk = new ConcordDesk();
        raises("seam group", ILLEGAL, () -> desk.setSeam(-1, 1, 1));
        raises("seam group", ILLEGAL, () -> desk.setSeam(4, 0, 0));
        raises("seam letter", ILLEGAL, () -> desk.setSeam(0, -1, 1));
        raises("seam letter", ILLEGAL, () -> desk.setSeam(0, 9, 1));
        raises("seam becomes", ILLEGAL, () -> desk.setSeam(0, 1, -1));
        raises("seam becomes", ILLEGAL, () -> desk.setSeam(0, 1, 9));
        same("no seam, any letter that it becomes", 0, desk.setSeam(0, 0, 9));
        same("no seam, any letter that it becomes", 0, desk.setSeam(0, 0, Integer.MIN_VALUE));
        same("seam", 0, desk.setSeam(0, 8, 0));
        same("seam in place of another", 8, desk.setSeam(0, 1, 8));
        same("seam that becomes itself", 1, desk.setSeam(0, 4, 4));
        same("seam of another group", 0, desk.setSeam(1, 2, 1));
        same("seam away", 4, desk.setSeam(0, 0, 77));
        same("seam is away", 0, desk.setSeam(0, 0, 0));
    }

    private static void form() {
        ConcordDesk desk = new ConcordDesk();
        raises("form without roots", OUTSIDE, () -> desk.form(0, 5, 5));
        desk.addRoot(0, 2, 0, 8888);
        raises("form root", OUTSIDE, () -> desk.form(1, 0, 0));
        raises("form root", OUTSIDE, () -> desk.form(-1, 9, 9));
        raises("form number", ILLEGAL, () -> desk.form(0, 2, 0));
        raises("form number", ILLEGAL, () -> desk.form(0, -1, 0));
        raises("form case", ILLEGAL, () -> desk.form(0, 0, 3));
        raises("form case", ILLEGAL, () -> desk.form(0, 0, -1));
        raises("form ending", NONE, () -> desk.form(0, 0, 0));
        int[] endings = {0, 1, 88, -1, 12, 7};
        for (int cell = 0; cell < 6; cell++) {
            desk.setEnding(2, cell / 3, cell % 3, endings[cell]);
        }
        same("form empty", 8888, desk.form(0, 0, 0));
        same("form one letter", 88881, desk.form(0, 0, 1));
        same("form two letters", 888888, desk.form(0, 0, 2));
        raises("form none", NONE, () -> desk.form(0, 1, 0));
        same("form number 1", 888812, desk.form(0, 1, 1));
        same("form number 1, case 2", 88887, desk.form(0, 1, 2));
    }

    private static void seams() {
        ConcordDesk desk = new ConcordDesk();
        desk.setEnding(0, 0, 0, 0);
        desk.setEnding(0, 0, 1, 5);
        desk.setEnding(0, 0, 2, 55);
        desk.addRoot(0, 0, 0, 123);
        desk.addRoot(0, 0, 0, 3);
        desk.addRoot(0, 0, 0, 13);
        desk.addRoot(0, 0, 0, 132);
        desk.addRoot(0, 1, 0, 123);
        desk.setEnding(1, 0, 1, 5);
        desk.setSeam(0, 3, 4);
        same("seam not ahead of an empty ending", 123, desk.form(0, 0, 0));
        same("seam", 1245, desk.form(0, 0, 1));
        same("seam ahead of two letters", 12455, desk.form(0, 0, 2));
        same("no seam with one letter", 35, desk.form(1, 0, 1));
        same("seam with two letters", 145, desk.form(2, 0, 1));
        same("seam of the last letter alone", 1325, desk.form(3, 0, 1));
        same("seam of its group alone", 1235, desk.form(4, 0, 1));
        desk.setSeam(0, 3, 0);
        same("seam to nothing", 125, desk.form(0, 0, 1));
        same("seam to nothing", 1255, desk.form(0, 0, 2));
        same("seam to nothing, two letters", 15, desk.form(2, 0, 1));
        same("seam to nothing, one letter", 35, desk.form(1, 0, 1));
        same("seam to nothing, empty ending", 13, desk.form(2, 0, 0));
        desk.setSeam(0, 0, 8);
        same("seam away", 1235, desk.form(0, 0, 1));
        desk.setSeam(0, 2, 8);
        same("seam of another letter", 1385, desk.form(3, 0, 1));
        same("seam of another letter", 1235, desk.form(0, 0, 1));
    }

    private static void readings() {
        ConcordDesk desk = new ConcordDesk();
        for (int word : NO_WORDS) {
            raises("readings " + word, ILLEGAL, () -> desk.readings(word));
            raises("reading " + word, ILLEGAL, () -> desk.reading(word, 0));
            raises("reading " + word, ILLEGAL, () -> desk.reading(word, -1));
        }
        same("longest word", 0, desk.readings(8888888));
        for (int cell = 0; cell < 6; cell++) {
            desk.setEnding(0, cell / 3, cell % 3, 0);
        }
        for (int i = 0; i < 10; i++) {
            desk.addRoot(0, 0, 0, 7);
        }
        same("all readings", 60, desk.readings(7));
        for (int i = 0; i < 60; i++) {
            same("reading " + i, i / 6 * 10 + i % 6, desk.reading(7, i));
        }
        raises("reading 60", OUTSIDE, () -> desk.reading(7, 60));
        raises("reading -1", OUTSIDE, () -> desk.reading(7, -1));
        raises("reading of an unknown word", OUTSIDE, () -> desk.reading(8, 0));
        desk.setEnding(0, 1, 1, 1);
        same("readings of some", 50, desk.readings(7));
        same("reading behind the gap", 5, desk.reading(7, 4));
        same("reading of the other form", 94, desk.reading(71, 9));
        ConcordDesk mixed = new ConcordDesk();
        mixed.setEnding(0, 1, 2, 21);
        mixed.setEnding(1, 0, 1, 1);
        mixed.addRoot(0, 1, 0, 12);
        mixed.addRoot(0, 0, 0, 1);
        same("a word of two roots", 2, mixed.readings(121));
        same("its first reading", 1, mixed.reading(121, 0));
        same("its second reading", 15, mixed.reading(121, 1));
    }

    private static void guess() {
        ConcordDesk desk = new ConcordDesk();
        for (int word : NO_WORDS) {
            raises("guess " + word, ILLEGAL, () -> desk.guess(word));
        }
        desk.setEnding(0, 0, 0, 0);
        desk.addRoot(0, 0, 0, 12);
        raises("guess of a known word", STATE, () -> desk.guess(12));
        raises("no guess by an empty ending", NONE, () -> desk.guess(21));
        desk.setEnding(3, 1, 2, 1);
        same("guess by a group without roots", 35, desk.guess(21));
        same("guess for a long word", 35, desk.guess(8888881));
        raises("guess for a word that is the ending", NONE, () -> desk.guess(1));
        desk.setEnding(2, 1, 0, 21);
        same("the longest ending", 23, desk.guess(321));
        same("the ending is shorter than the word", 35, desk.guess(21));
        same("only at the end", 35, desk.guess(2111));
        raises("no such ending", NONE, () -> desk.guess(212));
        desk.setEnding(3, 1, 2, -1);
        raises("the ending is gone", NONE, () -> desk.guess(21));
    }

    private static void guessOrder() {
        ConcordDesk desk = new ConcordDesk();
        for (int group = 3; group >= 0; group--) {
            for (int cell = 5; cell >= 0; cell--) {
                desk.setEnding(group, cell / 3, cell % 3, 4);
                same("the lowest one", 10 * group + cell, desk.guess(34));
            }
        }
        desk.setEnding(3, 1, 2, 34);
        same("longer goes ahead of lower", 35, desk.guess(334));
        desk.setEnding(0, 1, 0, 34);
        same("lowest of the longest", 3, desk.guess(334));
        desk.setEnding(0, 0, 2, 34);
        same("number goes ahead of case", 2, desk.guess(334));
    }

    private static void cost() {
        ConcordDesk desk = new ConcordDesk();
        for (int word : NO_WORDS) {
            raises("cost " + word, ILLEGAL, () -> desk.cost(word, 1));
            raises("cost 1, " + word, ILLEGAL, () -> desk.cost(1, word));
        }
        int[][] due = {{1, 1, 0}, {1, 2, 1}, {2, 1, 1}, {1, 3, 2}, {1, 8, 2}, {8, 1, 2}, {1, 11, 2}, {12, 1, 2},
            {1, 1234567, 12}, {8888888, 1, 14}, {8888888, 8, 12}, {12, 21, 1}, {18, 81, 1}, {123, 321, 4},
            {1818, 8181, 2}, {1234, 2143, 2}, {123, 231, 4}, {1122, 2211, 3}, {1111111, 8888888, 14},
            {1234567, 1234567, 0}, {1234567, 2345678, 4}, {18, 881, 3}, {181, 818, 3}, {15, 251, 3}, {123, 12, 2},
            {123, 23, 2}, {123, 13, 2}, {45, 54, 1}, {1357, 2468, 4}, {5, 1, 2}, {18, 811, 3}, {14, 451, 5},
            {1814181, 8111818, 5}};
        for (int[] d : due) {
            same("cost " + d[0] + ", " + d[1], d[2], desk.cost(d[0], d[1]));
            same("cost " + d[1] + ", " + d[0], d[2], desk.cost(d[1], d[0]));
        }
    }

    private static void suggestions() {
        ConcordDesk desk = plain();
        for (int word : NO_WORDS) {
            raises("suggestions " + word, ILLEGAL, () -> desk.suggestions(word));
            raises("suggestion " + word, ILLEGAL, () -> desk.suggestion(word, 0));
            raises("suggestion " + word, ILLEGAL, () -> desk.suggestion(word, -1));
        }
        for (int word : new int[] {5111, 111, 118, 8111, 211, 11, 611, 117, 1111, 111}) {
            desk.addRoot(0, 0, 0, word);
        }
        // Beside 111: 211 costs 1; 11, 117, 118, 611, 1111, 5111 and 8111 cost 2; it itself is none.
        int[] due = {211, 11, 117, 118, 611};
        same("suggestions for a known word", 5, desk.suggestions(111));
        for (int i = 0; i < 5; i++) {
            same("suggestion " + i, due[i], desk.suggestion(111, i));
        }
        raises("suggestion 5", OUTSIDE, () -> desk.suggestion(111, 5));
        raises("suggestion -1", OUTSIDE, () -> desk.suggestion(111, -1));
        // Beside 88: 118, 111 and others cost 4 and more.
        same("none near", 0, desk.suggestions(8888));
        raises("none near", OUTSIDE, () -> desk.suggestion(8888, 0));
        // Beside 61: 11 costs 2, 611 costs 2, 111 and 211 cost 4.
        same("just these", 2, desk.suggestions(61));
        same("the lower word of the same cost", 11, desk.suggestion(61, 0));
        same("the higher one", 611, desk.suggestion(61, 1));
        ConcordDesk edge = plain();
        edge.addRoot(0, 0, 0, 1122);
        same("3", 3, edge.cost(2182, 1122));
        same("3 is near enough", 1, edge.suggestions(2182));
        same("3, with a letter more", 1, edge.suggestions(21132));
        same("4", 4, edge.cost(8182, 1122));
        same("4 is too far", 0, edge.suggestions(8182));
        same("two letters less are too far", 0, edge.suggestions(12));
        ConcordDesk none = new ConcordDesk();
        none.addRoot(0, 0, 0, 12);
        same("a root that is no form is not suggested", 0, none.suggestions(13));
    }

    private static void text() {
        ConcordDesk desk = new ConcordDesk();
        same("insert", 1, desk.insert(0, 1));
        same("insert at the end", 2, desk.insert(1, 8888888));
        same("insert at the start", 3, desk.insert(0, 0));
        same("insert between", 4, desk.insert(1, 22));
        int[] due = {0, 22, 1, 8888888};
        for (int i = 0; i < 4; i++) {
            same("token " + i, due[i], desk.token(i));
        }
        same("replace", 22, desk.replace(1, 33));
        same("replace by a stop", 1, desk.replace(2, 0));
        same("replace a stop", 0, desk.replace(0, 44));
        same("replaced", 33, desk.token(1));
        same("replaced", 0, desk.token(2));
        same("remove", 33, desk.remove(1));
        same("the others move up", 0, desk.token(1));
        same("remove a stop", 0, desk.remove(1));
        same("remove the first", 44, desk.remove(0));
        same("tokens", 1, desk.tokens());
        same("remove the last", 8888888, desk.remove(0));
        same("tokens", 0, desk.tokens());
    }

    private static void wrongText() {
        ConcordDesk desk = new ConcordDesk();
        raises("insert place", OUTSIDE, () -> desk.insert(1, 1));
        raises("insert place goes first", OUTSIDE, () -> desk.insert(-1, 9));
        raises("remove of nothing", OUTSIDE, () -> desk.remove(0));
        raises("replace of nothing", OUTSIDE, () -> desk.replace(0, 9));
        raises("token of nothing", OUTSIDE, () -> desk.token(0));
        for (int i = 0; i < 10; i++) {
            int count = i;
            raises("insert behind the end", OUTSIDE, () -> desk.insert(count + 1, 1));
            same("insert", i + 1, desk.insert(i, i + 1 > 8 ? 0 : i + 1));
        }
        raises("insert an eleventh", STATE, () -> desk.insert(10, 1));
        raises("insert an eleventh", STATE, () -> desk.insert(0, 0));
        raises("insert an eleventh at no place", OUTSIDE, () -> desk.insert(11, 0));
        raises("insert an eleventh that is none", ILLEGAL, () -> desk.insert(10, 9));
        for (int token : NO_WORDS) {
            if (token != 0) {
                raises("insert " + token, ILLEGAL, () -> desk.insert(0, token));
                raises("replace " + token, ILLEGAL, () -> desk.replace(9, token));
                raises("replace at no place " + token, OUTSIDE, () -> desk.replace(10, token));
            }
        }
        for (int place : new int[] {-1, 10, Integer.MIN_VALUE, Integer.MAX_VALUE}) {
            raises("remove place", OUTSIDE, () -> desk.remove(place));
            raises("replace place", OUTSIDE, () -> desk.replace(place, 1));
            raises("token place", OUTSIDE, () -> desk.token(place));
            raises("left place", OUTSIDE, () -> desk.left(place));
        }
        same("nothing has changed", 10, desk.tokens());
        same("nothing has changed", 1, desk.token(0));
        same("nothing has changed", 0, desk.token(9));
    }

    private static void sentences() {
        int[][] texts = {{}, {0}, {0, 0}, {1}, {0, 1}, {1, 0}, {1, 0, 0, 2, 3}, {0, 1, 2, 0, 0, 0, 3, 0},
            {1, 0, 2, 0, 3, 0, 4, 0, 5, 0}, {1, 2, 3, 4, 5, 6, 7, 8, 1, 2}};
        int[][] starts = {{}, {}, {}, {0}, {1}, {0}, {0, 3}, {1, 6}, {0, 2, 4, 6, 8}, {0}};
        int[][] sizes = {{}, {}, {}, {1}, {1}, {1}, {1, 2}, {2, 1}, {1, 1, 1, 1, 1}, {10}};
        for (int i = 0; i < texts.length; i++) {
            ConcordDesk desk = new ConcordDesk();
            write(desk, texts[i]);
            same("sentences of text " + i, starts[i].length, desk.sentences());
            for (int s = 0; s < starts[i].length; s++) {
                same("from " + s + " of text " + i, starts[i][s], desk.from(s));
                same("words " + s + " of text " + i, sizes[i][s], desk.words(s));
            }
            for (int s : new int[] {-1, starts[i].length, Integer.MAX_VALUE, Integer.MIN_VALUE}) {
                raises("from " + s, OUTSIDE, () -> desk.from(s));
                raises("words " + s, OUTSIDE, () -> desk.words(s));
                raises("trees " + s, OUTSIDE, () -> desk.trees(s));
                raises("treesAnew " + s, OUTSIDE, () -> desk.treesAnew(s));
                raises("best " + s, OUTSIDE, () -> desk.best(s));
                raises("fault " + s, OUTSIDE, () -> desk.fault(s));
            }
        }
        ConcordDesk desk = new ConcordDesk();
        write(desk, texts[texts.length - 1]);
        desk.replace(4, 0);
        same("a stop parts", 2, desk.sentences());
        same("a stop parts", 5, desk.from(1));
        desk.remove(4);
        same("and joins when it is gone", 1, desk.sentences());
        same("and joins when it is gone", 9, desk.words(0));
    }

    private static void addCut() {
        ConcordDesk desk = new ConcordDesk();
        for (int kind : new int[] {-1, 3, Integer.MIN_VALUE, Integer.MAX_VALUE}) {
            raises("addCut ahead", ILLEGAL, () -> desk.addCut(kind, 0));
            raises("addCut kind", ILLEGAL, () -> desk.addCut(0, kind));
        }
        for (int i = 0; i < 6; i++) {
            same("addCut", i + 1, desk.addCut(i % 3, 2 - i % 3));
        }
        raises("addCut seventh", STATE, () -> desk.addCut(0, 0));
        raises("addCut seventh, no kind", ILLEGAL, () -> desk.addCut(0, 3));
    }

    /** 1 and 2 are of one kind, 0 and 1; 3 is of the kinds 0 and 1, 4 of all three, 5 of the kinds 1 and 2. */
    private static ConcordDesk kinds() {
        ConcordDesk desk = plain();
        int[][] roots = {{0, 1}, {1, 2}, {0, 3}, {1, 3}, {0, 4}, {1, 4}, {2, 4}, {1, 5}, {2, 5}};
        for (int[] root : roots) {
            desk.addRoot(root[0], 0, 0, root[1]);
        }
        return desk;
    }

    private static void lefts(String what, ConcordDesk desk, int... due) {
        for (int i = 0; i < due.length; i++) {
            same(what + ", left at " + i, due[i], desk.left(i));
        }
    }

    private static void cuts() {
        ConcordDesk desk = kinds();
        desk.addCut(0, 0);
        write(desk, 3, 3, 1, 3, 3, 3);
        lefts("only behind a word of the kind alone", desk, 2, 2, 1, 1, 2, 2);
        write(desk, 1, 1, 4);
        lefts("the last readings stay", desk, 1, 1, 2);
        write(desk, 1, 0, 3);
        lefts("a stop parts", desk, 1, 0, 2);
        write(desk, 8, 3, 1, 8, 3);
        lefts("an unknown word has none left", desk, 0, 2, 1, 0, 2);
        desk.addCut(1, 1);
        write(desk, 1, 3, 3, 3, 4);
        lefts("cuts follow from cuts", desk, 1, 1, 1, 1, 2);
        write(desk, 4, 1, 4, 5);
        lefts("two kinds left are no kind alone", desk, 3, 1, 2, 2);
        desk.addCut(0, 1);
        write(desk, 1, 3, 4);
        lefts("two cuts, and by rising numbers", desk, 1, 1, 2);
        same("the first cut goes first: kind 1 is left", true, isOfKind(desk, 1, 1));
        ConcordDesk turned = kinds();
        turned.addCut(0, 1);
        turned.addCut(0, 0);
        write(turned, 1, 3, 4);
        lefts("the other way round", turned, 1, 1, 1);
        same("the first cut goes first: kind 0 is left", true, isOfKind(turned, 1, 0));
        ConcordDesk same = kinds();
        same.addCut(2, 2);
        write(same, 5, 5);
        lefts("no cut of the first word", same, 2, 2);
        same.remove(0);
        same.insert(0, 1);
        same.addCut(0, 1);
        lefts("a cut that comes later", same, 1, 1);
    }

    /** Whether the word at a place has only readings of a kind, seen by rules that join it with the first word, 1. */
    private static boolean isOfKind(ConcordDesk desk, int place, int kind) {
        int[] kept = new int[desk.tokens()];
        for (int i = 0; i < kept.length; i++) {
            kept[i] = desk.token(i);
        }
        write(desk, kept[0], kept[place]);
        int before = (int) desk.trees(0);
        desk.addRule(7, 0, kind, 0, false);
        boolean is = desk.trees(0) - before == desk.left(1);
        write(desk, kept);
        return is;
    }

    private static void addRule() {
        ConcordDesk desk = new ConcordDesk();
        int[][] wrongNumbers = {{2, 0, 0, 0}, {0, 0, 0, 0}, {-1, 0, 0, 0}, {8, 0, 0, 0}, {7, -1, 0, 0}, {7, 8, 0, 0},
            {7, 0, -1, 0}, {7, 0, 8, 0}, {7, 0, 0, -1}, {7, 0, 0, 8}};
        for (int[] n : wrongNumbers) {
            raises("addRule number", ILLEGAL, () -> desk.addRule(n[0], n[1], n[2], n[3], true));
        }
        for (int i = 0; i < 12; i++) {
            same("addRule", i + 1, desk.addRule(3 + i % 5, i % 8, 7 - i % 8, i % 8, i % 2 == 0));
        }
        raises("addRule thirteenth", STATE, () -> desk.addRule(7, 0, 0, 0, true));
        raises("addRule thirteenth, makes 2", ILLEGAL, () -> desk.addRule(2, 0, 0, 0, true));
    }

    private static void left() {
        ConcordDesk desk = new ConcordDesk();
        for (int cell = 0; cell < 6; cell++) {
            desk.setEnding(0, cell / 3, cell % 3, cell < 4 ? 0 : 1);
        }
        desk.addRoot(0, 0, 0, 5);
        write(desk, 5, 0, 51, 52);
        lefts("left", desk, 4, 0, 2, 0);
        desk.setEnding(0, 0, 0, -1);
        lefts("left follows the endings", desk, 3, 0, 2, 0);
        desk.addRoot(1, 0, 0, 51);
        lefts("left follows the roots", desk, 3, 0, 5, 0);
        desk.setSeam(0, 1, 2);
        write(desk, 511, 521);
        lefts("left follows the seams", desk, 0, 2);
        desk.setSeam(0, 0, 0);
        lefts("left follows the seams", desk, 2, 0);
        write(desk, 5, 0, 51, 52);
        raises("left", OUTSIDE, () -> desk.left(4));
        raises("left", OUTSIDE, () -> desk.left(-1));
    }

    private static void trees() {
        ConcordDesk desk = kinds();
        write(desk, 1);
        same("a word alone has no category 7", 0L, desk.trees(0));
        write(desk, 1, 2);
        same("no rules", 0L, desk.trees(0));
        desk.addRule(7, 0, 1, 0, false);
        same("a rule", 1L, desk.trees(0));
        write(desk, 2, 1);
        same("not the other way", 0L, desk.trees(0));
        write(desk, 3, 3);
        same("of readings", 1L, desk.trees(0));
        desk.addRule(7, 0, 1, 0, true);
        same("rules that are alike are two", 2L, desk.trees(0));
        desk.addRule(6, 0, 1, 0, false);
        same("another category is no sentence", 2L, desk.trees(0));
        desk.addRule(7, 7, 7, 0, false);
        write(desk, 1, 2, 1, 2);
        same("parts in parts", 4L, desk.trees(0));
        write(desk, 1, 2, 1);
        same("all words have part", 0L, desk.trees(0));
        write(desk, 1, 2, 1, 2, 1, 2);
        same("parts in two ways", 16L, desk.trees(0));
        write(desk, 1, 2, 1, 2, 1, 2, 1, 2, 1, 2);
        same("parts in 14 ways", 14L * 32, desk.trees(0));
        write(desk, 1, 2, 1, 8);
        same("an unknown word", 0L, desk.trees(0));
        write(desk, 1, 2, 0, 1, 2, 1, 2);
        same("each sentence for itself", 2L, desk.trees(0));
        same("each sentence for itself", 4L, desk.trees(1));
        desk.addCut(0, 1);
        write(desk, 1, 3);
        same("a tree needs readings that are left", 0L, desk.trees(0));
    }

    private static void agreement() {
        for (int agree = 0; agree < 8; agree++) {
            ConcordDesk desk = new ConcordDesk();
            for (int cell = 0; cell < 6; cell++) {
                desk.setEnding(0, cell / 3, cell % 3, cell + 1);
            }
            for (int gender = 0; gender < 3; gender++) {
                desk.addRoot(0, 0, gender, 10 * (gender + 1) + 8);
            }
            desk.addRule(7, 0, 0, agree, false);
            desk.insert(0, 1);
            desk.insert(1, 1);
            for (int i = 0; i < 18; i += 5) {
                for (int j = 0; j < 18; j++) {
                    desk.replace(0, desk.form(i / 6, i / 3 % 2, i % 3));
                    desk.replace(1, desk.form(j / 6, j / 3 % 2, j % 3));
                    boolean is = ((agree & 1) == 0 || i / 6 == j / 6) && ((agree & 2) == 0 || i / 3 % 2 == j / 3 % 2)
                            && ((agree & 4) == 0 || i % 3 == j % 3);
                    same("agree " + agree + ", " + i + ", " + j, is ? 1L : 0L, desk.trees(0));
                    same("agree " + agree + ", fault", is ? '-' : 'g', desk.fault(0));
                }
            }
        }
    }

    private static void heads() {
        for (int isSecond = 0; isSecond < 2; isSecond++) {
            ConcordDesk desk = plain();
            desk.addRoot(0, 0, 1, 1);
            desk.addRoot(1, 0, 2, 2);
            desk.addRoot(2, 0, 1, 3);
            desk.addRoot(2, 0, 2, 4);
            desk.addRule(3, 0, 1, 0, isSecond == 1);
            desk.addRule(7, 3, 2, 1, false);
            write(desk, 1, 2, 3);
            same("the gender of the head", isSecond == 1 ? 0L : 1L, desk.trees(0));
            write(desk, 1, 2, 4);
            same("the gender of the head", isSecond == 1 ? 1L : 0L, desk.trees(0));
            same("the gender of the head, anew", isSecond == 1 ? 1L : 0L, desk.treesAnew(0));
        }
    }

    /** Several rules that make the same category of heads with other features. */
    private static void manyFeatures() {
        ConcordDesk desk = plain();
        desk.addRoot(0, 0, 0, 1);
        desk.addRoot(1, 0, 1, 2);
        desk.addRoot(2, 0, 0, 3);
        desk.addRoot(2, 0, 1, 3);
        desk.addRule(3, 0, 1, 0, false);
        desk.addRule(3, 0, 1, 0, true);
        desk.addRule(7, 3, 2, 1, false);
        write(desk, 1, 2, 3);
        same("a tree for each gender", 2L, desk.trees(0));
        same("a tree for each gender, anew", 2L, desk.treesAnew(0));
        same("the better one", 1 + 3, desk.best(0));
        desk.addRule(7, 2, 7, 1, true);
        write(desk, 3, 1, 2, 3);
        same("one more word for each gender", 2L, desk.trees(0));
        same("the better one", 1 + 3 + 4, desk.best(0));
    }

    private static void deepTrees() {
        ConcordDesk desk = plain();
        desk.addRoot(0, 0, 0, 1);
        desk.addRoot(1, 0, 1, 2);
        desk.addRule(3, 0, 1, 0, true);
        desk.addRule(4, 3, 0, 0, false);
        desk.addRule(5, 1, 4, 1, true);
        desk.addRule(6, 5, 5, 0, true);
        desk.addRule(7, 0, 6, 0, true);
        // 1 and (2 and ((1 2) 1)), and the same again: 3 has the gender of 2, so 4 and 5 agree in it.
        write(desk, 1, 2, 1, 2, 1, 2, 1, 2, 1);
        same("all categories", 1L, desk.trees(0));
        same("all categories, weight", 2 * (1 + 2 + 3) + 4 + 5, desk.best(0));
        write(desk, 1, 2, 1, 2, 1, 2, 1, 2, 2);
        same("all categories, another word", 0L, desk.trees(0));
    }

    private static void treesThatGoRound() {
        ConcordDesk desk = new ConcordDesk();
        for (int cell = 0; cell < 6; cell++) {
            desk.setEnding(0, cell / 3, cell % 3, 0);
        }
        for (int root = 0; root < 8; root++) {
            desk.addRoot(0, 0, root % 3, 1);
        }
        for (int rule = 0; rule < 12; rule++) {
            desk.addRule(7, rule < 4 ? 0 : 7, 0, 0, rule % 2 == 0);
        }
        write(desk, 1, 1);
        long due = 4 * 48 * 48;
        same("48 readings, 4 rules", due, desk.trees(0));
        for (int words = 3; words < 10; words++) {
            desk.insert(0, 1);
            due *= 48 * 8;
            same("trees of " + words + " words", due, desk.trees(0));
        }
        desk.insert(0, 1);
        same("3 to the 10, times 2 to the 66", 0L, desk.trees(0));
        same("there are trees all the same", '-', desk.fault(0));
        same("and no badness", 0, desk.badness());
        same("and a best one", 1 + 8 * 5, desk.best(0));
        same("and no edits", 0, desk.edits());
        desk.addRoot(0, 0, 0, 1);
        long odd = 4;
        for (int i = 0; i < 8; i++) {
            odd *= 8;
        }
        for (int i = 0; i < 10; i++) {
            odd *= 54;
        }
        same("54 to the 10, as longs go round", odd, desk.trees(0));
    }

    private static void treesAnew() {
        ConcordDesk desk = kinds();
        desk.addRule(7, 0, 1, 0, false);
        desk.addRule(7, 7, 2, 0, true);
        desk.addRule(3, 1, 2, 0, true);
        desk.addRule(7, 0, 3, 0, true);
        desk.addRule(7, 7, 7, 0, true);
        write(desk, 4);
        same("one word", 0L, desk.treesAnew(0));
        write(desk, 4, 4);
        same("two words", 1L, desk.treesAnew(0));
        write(desk, 4, 4, 4);
        same("three words", 2L, desk.treesAnew(0));
        same("three words by the other way", 2L, desk.trees(0));
        write(desk, 4, 4, 4, 4);
        raises("four words", UNABLE, () -> desk.treesAnew(0));
        raises("no sentence", OUTSIDE, () -> desk.treesAnew(1));
        write(desk, 1, 0, 1, 2);
        same("second sentence", 1L, desk.treesAnew(1));
        write(desk, 1, 8, 2);
        same("unknown word", 0L, desk.treesAnew(0));
        desk.addRule(4, 0, 1, 0, false);
        desk.addRule(7, 2, 4, 0, false);
        write(desk, 4, 1, 2);
        same("words with 3, 1 and 1 readings", 1L, desk.treesAnew(0));
        same("words with 3, 1 and 1 readings, by the other way", 1L, desk.trees(0));
        desk.addRule(7, 4, 2, 0, false);
        write(desk, 1, 2, 4);
        same("words with 1, 1 and 3 readings", 3L, desk.treesAnew(0));
        write(desk, 1, 4, 5);
        same("words with 1, 3 and 2 readings", 3L, desk.treesAnew(0));
        same("words with 1, 3 and 2 readings, by the other way", 3L, desk.trees(0));
        ConcordDesk much = new ConcordDesk();
        for (int cell = 0; cell < 6; cell++) {
            much.setEnding(0, cell / 3, cell % 3, 0);
        }
        for (int root = 0; root < 10; root++) {
            much.addRoot(0, 0, root % 3, 1);
        }
        for (int rule = 0; rule < 12; rule++) {
            much.addRule(7, rule % 4 == 1 ? 7 : 0, rule % 4 == 3 ? 7 : 0, 0, rule % 3 == 0);
        }
        write(much, 1, 1, 1);
        same("much to go through", 216000L * 6 * 6, much.treesAnew(0));
        same("much to go through, by the other way", 216000L * 6 * 6, much.trees(0));
    }

    private static void best() {
        ConcordDesk desk = kinds();
        write(desk, 1);
        raises("best without trees", NONE, () -> desk.best(0));
        raises("best sentence", OUTSIDE, () -> desk.best(1));
        desk.addRule(6, 0, 1, 0, false);
        desk.addRule(7, 0, 1, 0, false);
        desk.addRule(7, 0, 1, 0, false);
        write(desk, 1, 2);
        same("best of two", 2, desk.best(0));
        desk.addRule(7, 7, 7, 0, false);
        write(desk, 1, 2, 1, 2);
        same("best is a sum", 2 + 2 + 4, desk.best(0));
        desk.addRule(7, 6, 6, 0, false);
        same("best of two ways", 1 + 1 + 5, desk.best(0));
        write(desk, 1, 2, 1);
        raises("best of none", NONE, () -> desk.best(0));
        write(desk, 1, 8);
        raises("best with an unknown word", NONE, () -> desk.best(0));
    }

    private static void fault() {
        ConcordDesk desk = kinds();
        desk.addRule(7, 0, 1, 0, false);
        write(desk, 1, 2, 0, 2, 1, 0, 1, 8, 6, 0);
        same("no fault", '-', desk.fault(0));
        same("fault of grammar", 'g', desk.fault(1));
        same("fault of unknown words", 'u', desk.fault(2));
        same("badness", 0 + 1 + 4, desk.badness());
        desk.remove(9);
        desk.remove(8);
        same("fault of one unknown word", 'u', desk.fault(2));
        same("badness is not more for grammar", 0 + 1 + 2, desk.badness());
        write(desk, 1);
        same("a word alone", 'g', desk.fault(0));
        same("badness of a word alone", 1, desk.badness());
        write(desk, 0, 0);
        same("badness of stops", 0, desk.badness());
        write(desk, 8, 8, 8, 8, 8, 8, 8, 8, 8, 8);
        same("badness of ten", 20, desk.badness());
        desk.addRoot(0, 0, 0, 8);
        same("badness follows the roots", 1, desk.badness());
        raises("fault", OUTSIDE, () -> desk.fault(1));
        raises("fault", OUTSIDE, () -> desk.fault(-1));
    }

    private static void unknownEdits() {
        ConcordDesk desk = plain();
        for (int word : new int[] {5111, 118, 8111, 211, 11, 611, 117, 1111}) {
            desk.addRoot(0, 0, 0, word);
        }
        write(desk, 211, 111);
        // The suggestions 211, 11, 117, 118, 611, and told by words.
        int[] due = {11, 117, 118, 211, 611};
        same("edits of an unknown word", 5, desk.edits());
        for (int i = 0; i < 5; i++) {
            same("edit place " + i, 1, desk.editPlace(i));
            same("edit word " + i, due[i], desk.editWord(i));
        }
        write(desk, 111, 0, 111, 7777);
        same("edits of each sentence", 10, desk.edits());
        same("edits by places", 0, desk.editPlace(4));
        same("edits by places", 2, desk.editPlace(5));
        same("edits by words", 11, desk.editWord(5));
        raises("edit place 10", OUTSIDE, () -> desk.editPlace(10));
        raises("edit place -1", OUTSIDE, () -> desk.editPlace(-1));
        raises("edit word 10", OUTSIDE, () -> desk.editWord(10));
        raises("edit word -1", OUTSIDE, () -> desk.editWord(-1));
        raises("apply 10", OUTSIDE, () -> desk.apply(10));
        raises("apply -1", OUTSIDE, () -> desk.apply(-1));
        write(desk, 7777);
        same("no suggestions, no edits", 0, desk.edits());
        raises("no edits", OUTSIDE, () -> desk.apply(0));
    }

    /** Kind 0 has the forms 1, 12, 13 of number 0 and 14 of number 1; kind 1 has 5 and 54, alike. */
    private static ConcordDesk numbers() {
        ConcordDesk desk = new ConcordDesk();
        desk.setEnding(0, 0, 0, 0);
        desk.setEnding(0, 0, 1, 2);
        desk.setEnding(0, 0, 2, 3);
        desk.setEnding(0, 1, 0, 4);
        desk.addRoot(0, 0, 0, 1);
        desk.addRoot(1, 1, 0, 5);
        desk.setEnding(1, 0, 0, 0);
        desk.setEnding(1, 1, 0, 4);
        desk.addRule(7, 0, 1, 2, false);
        return desk;
    }

    private static void edits(String what, ConcordDesk desk, int... due) {
        same(what + ", how many", due.length / 2, desk.edits());
        for (int i = 0; i < due.length / 2 && i < desk.edits(); i++) {
            same(what + ", place " + i, due[2 * i], desk.editPlace(i));
            same(what + ", word " + i, due[2 * i + 1], desk.editWord(i));
        }
    }

    private static void grammarEdits() {
        ConcordDesk desk = numbers();
        write(desk, 1, 54);
        edits("forms of the same roots", desk, 0, 14, 1, 5);
        write(desk, 14, 5);
        edits("forms in their order", desk, 0, 1, 0, 12, 0, 13, 1, 54);
        write(desk, 1, 5);
        edits("no fault, no edits", desk);
        write(desk, 5, 1);
        edits("nothing helps", desk);
        write(desk, 14, 5, 0, 1, 54);
        edits("in two sentences", desk, 0, 1, 0, 12, 0, 13, 1, 54, 3, 14, 4, 5);
        write(desk, 1, 54, 0, 1, 5);
        edits("in one of two sentences", desk, 0, 14, 1, 5);
        write(desk, 1, 44);
        // 54 costs 1 beside 44, 14 costs 2, 5 and 13 cost 3: all make it better, other forms of 1 do not.
        edits("no other forms beside an unknown word", desk, 1, 5, 1, 13, 1, 14, 1, 54);
        desk.addRoot(0, 0, 0, 54);
        write(desk, 1, 54);
        edits("54 is also a root of the kind 0", desk, 0, 14, 1, 5);
    }

    private static void editOrder() {
        ConcordDesk desk = new ConcordDesk();
        desk.setEnding(0, 0, 0, 0);
        desk.setEnding(0, 0, 1, 7);
        desk.setEnding(0, 1, 0, 11);
        desk.setEnding(1, 0, 0, 1);
        desk.setEnding(1, 0, 1, 2);
        desk.setEnding(1, 1, 1, 2);
        desk.addRoot(0, 0, 0, 31);
        desk.addRoot(2, 1, 0, 3);
        desk.addRoot(1, 2, 0, 6);
        desk.setEnding(2, 1, 0, 0);
        desk.setEnding(2, 1, 1, 0);
        desk.addRule(7, 0, 1, 2, false);
        desk.addRule(7, 2, 1, 2, true);
        // 31 is a form of roots 0 and 1; of these, 3111 and 32, which is the form of two cases, have the number 1.
        write(desk, 31, 6);
        edits("each word once, in the order of words", desk, 0, 32, 0, 3111);
    }

    private static void mostEdits() {
        ConcordDesk desk = plain();
        for (int word : new int[] {11, 12, 13, 14, 15}) {
            desk.addRoot(0, 0, 0, word);
        }
        write(desk, 16, 0, 16, 16, 16, 16, 16, 16);
        // 15 costs 1 beside 16, 11 to 14 cost 2: five for each place.
        same("30 edits at most", 30, desk.edits());
        same("the last one told, place", 6, desk.editPlace(29));
        same("the last one told, word", 15, desk.editWord(29));
        raises("no more", OUTSIDE, () -> desk.editWord(30));
        raises("no more", OUTSIDE, () -> desk.editPlace(30));
        raises("no more", OUTSIDE, () -> desk.apply(30));
        same("apply the last one", 2, desk.apply(29));
        same("the text is changed", 15, desk.token(6));
        same("still 30", 30, desk.edits());
        same("the place is left out", 7, desk.editPlace(29));
        desk.remove(0);
        same("fewer", 25, desk.edits());
    }

    private static void editsBehindCuts() {
        ConcordDesk desk = numbers();
        desk.addRoot(2, 2, 0, 5);
        desk.setEnding(2, 1, 1, 0);
        desk.setEnding(2, 1, 2, 6);
        write(desk, 1, 5);
        same("5 as kind 1", 1L, desk.trees(0));
        desk.addCut(0, 1);
        same("5 as kind 2 only", 1, desk.left(1));
        same("5 as kind 2 has no tree", 'g', desk.fault(0));
        // All forms of both roots are tried: 54, which is of the number 1, would need 14, and 56 has no rule.
        edits("no edits", desk);
        write(desk, 14, 5);
        edits("forms of a root that is cut", desk, 1, 54);
        write(desk, 1, 54);
        edits("a cut of what is tried", desk, 0, 14);
    }

    private static void apply() {
        ConcordDesk desk = numbers();
        write(desk, 1, 54, 0, 14, 5);
        same("badness before", 2, desk.badness());
        same("apply", 1, desk.apply(1));
        same("the word takes its place", 5, desk.token(1));
        same("the others stay", 1, desk.token(0));
        same("the others stay", 5, desk.tokens());
        same("badness then", 1, desk.badness());
        same("edits then", 4, desk.edits());
        same("apply the last one", 1, desk.apply(3));
        same("its word", 54, desk.token(4));
        same("no badness", 0, desk.badness());
        raises("no edits", OUTSIDE, () -> desk.apply(0));
        write(desk, 1, 55);
        // 5 makes a sentence, so all that is bad is gone; 54 leaves a fault of grammar.
        edits("edits of an unknown word", desk, 1, 5, 1, 14, 1, 54);
        same("apply 54", 1, desk.apply(2));
        write(desk, 1, 55);
        same("apply 5", 2, desk.apply(0));
        write(desk, 55, 1, 55);
        same("apply with another one unknown", 2, desk.apply(0));
    }

    private static void editsFollowChanges() {
        ConcordDesk desk = numbers();
        write(desk, 1, 54);
        same("at first", 2, desk.edits());
        desk.setEnding(0, 1, 1, 6);
        edits("an ending", desk, 0, 14, 0, 16, 1, 5);
        desk.setEnding(0, 1, 0, -1);
        edits("an ending away", desk, 0, 16, 1, 5);
        desk.addRoot(0, 0, 0, 2);
        edits("a root of which it has no reading", desk, 0, 16, 1, 5);
        desk.addRoot(1, 1, 0, 5);
        edits("a root that is the same", desk, 0, 16, 1, 5);
        desk.addRoot(1, 3, 0, 54);
        desk.setEnding(3, 0, 0, 0);
        edits("a root that mends it", desk);
        desk.setEnding(3, 0, 0, -1);
        edits("and no more", desk, 0, 16, 1, 5);
        desk.addRule(7, 0, 1, 0, false);
        edits("a rule that mends it", desk);
        desk.insert(2, 0);
        desk.insert(3, 1);
        edits("a sentence that nothing mends", desk);
        desk.insert(4, 51);
        // 1, 5 and 54 cost 2 beside 51; 2, 12 and 22 cost 3.
        edits("an unknown word", desk, 4, 1, 4, 2, 4, 5, 4, 12, 4, 54);
    }

    private static void figures() {
        ConcordDesk desk = kinds();
        raises("knownShare of nothing", ARITHMETIC, desk::knownShare);
        raises("meanLeft of nothing", ARITHMETIC, desk::meanLeft);
        write(desk, 0, 0);
        raises("knownShare of stops", ARITHMETIC, desk::knownShare);
        raises("meanLeft of stops", ARITHMETIC, desk::meanLeft);
        write(desk, 8);
        same("knownShare of none", 0.0f, desk.knownShare());
        same("meanLeft of none", 0.0, desk.meanLeft());
        write(desk, 1, 0, 8, 4, 0);
        same("knownShare of two thirds", 2f / 3f, desk.knownShare());
        same("meanLeft of 4 by 3", 4.0 / 3.0, desk.meanLeft());
        desk.addCut(0, 1);
        write(desk, 1, 4, 4, 5, 6, 6, 6);
        same("knownShare of 4 by 7", 4f / 7f, desk.knownShare());
        same("meanLeft behind cuts", 8.0 / 7.0, desk.meanLeft());
        write(desk, 1, 2);
        same("knownShare of all", 1.0f, desk.knownShare());
        same("meanLeft of 1", 1.0, desk.meanLeft());
    }

    private static void isSound() {
        ConcordDesk desk = numbers();
        same("sound without text", true, desk.isSound());
        write(desk, 1, 54, 0, 14, 5, 0, 44, 14, 5, 5);
        same("sound", true, desk.isSound());
        same("asking changes no text", 54, desk.token(1));
        same("asking changes no edits", 10, desk.edits());
        same("asking changes no badness", 4, desk.badness());
        write(desk, 1, 5, 14);
        desk.addRule(3, 1, 0, 0, false);
        desk.addRule(7, 0, 3, 0, false);
        desk.addRule(7, 7, 0, 0, false);
        same("sound with trees", true, desk.isSound());
        same("two trees", 2L, desk.trees(0));
        same("left as before", 1, desk.left(1));
    }

    private static void failedCallsChangeNothing() {
        ConcordDesk desk = numbers();
        write(desk, 1, 54);
        same("edits", 2, desk.edits());
        raises("addRoot", ILLEGAL, () -> desk.addRoot(0, 0, 0, 9));
        raises("setEnding", ILLEGAL, () -> desk.setEnding(0, 1, 0, 9));
        raises("setSeam", ILLEGAL, () -> desk.setSeam(0, 1, 9));
        raises("insert", ILLEGAL, () -> desk.insert(0, 9));
        raises("replace", ILLEGAL, () -> desk.replace(0, 9));
        raises("addCut", ILLEGAL, () -> desk.addCut(0, 3));
        raises("addRule", ILLEGAL, () -> desk.addRule(7, 0, 1, 8, false));
        raises("apply", OUTSIDE, () -> desk.apply(2));
        edits("edits as before", desk, 0, 14, 1, 5);
        same("tokens as before", 2, desk.tokens());
        same("seam as before", 0, desk.setSeam(0, 0, 0));
        same("ending as before", 4, desk.setEnding(0, 1, 0, 4));
        same("roots as before", 2, desk.addRoot(0, 3, 0, 1));
        same("cuts as before", 1, desk.addCut(2, 2));
        same("rules as before", 2, desk.addRule(6, 0, 1, 0, false));
    }
}
