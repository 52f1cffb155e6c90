import java.util.NoSuchElementException;

/** A checker of grammar and spelling: the face looks at the arguments, the classes inside do the work. */
public final class ConcordDesk {
    private static final int KINDS = 3;
    private static final int GROUPS = 4;
    private static final int GENDERS = 3;
    private static final int NUMBERS = 2;
    private static final int CASES = 3;
    /** A cell is a number and a case: CASES * number + case. */
    private static final int CELLS = NUMBERS * CASES;
    private static final int MOST_ROOTS = 10;
    /** A slot is a root and a cell: CELLS * root + cell; all of them fit into the bits of a long. */
    private static final int SLOTS = MOST_ROOTS * CELLS;
    private static final int MOST_LETTERS = 7;
    private static final int MOST_ROOT_LETTERS = 4;
    private static final int MOST_ENDING_LETTERS = 2;
    private static final int NO_ENDING = -1;
    private static final int MOST_SUGGESTIONS = 5;
    private static final int MOST_COST = 3;
    private static final int MOST_TOKENS = 10;
    private static final int MOST_SENTENCES = 5;
    private static final int STOP = 0;
    private static final int MOST_CUTS = 6;
    private static final int MOST_RULES = 12;
    private static final int CATEGORIES = 8;
    private static final int TOP = 7;
    private static final int MOST_WORDS_ANEW = 3;
    private static final int MOST_EDITS = 30;
    private static final int EDITS_PROVED = 3;

    private final Lexicon lexicon;
    private final Speller speller;
    private final Grammar grammar;
    private final Text text;
    private final Proof proof;

    public ConcordDesk() {
        lexicon = new Lexicon();
        speller = new Speller(lexicon);
        grammar = new Grammar();
        text = new Text();
        proof = new Proof(lexicon, speller, grammar, text);
    }

    // Roots and forms.

    public int addRoot(int kind, int group, int gender, int word)
            throws IllegalArgumentException, IllegalStateException {
        if (!isBelow(kind, KINDS) || !isBelow(group, GROUPS) || !isBelow(gender, GENDERS)
                || lettersOf(word, MOST_ROOT_LETTERS) == 0) {
            throw new IllegalArgumentException();
        }
        if (lexicon.rootCount() >= MOST_ROOTS) {
            throw new IllegalStateException();
        }
        int root = lexicon.takeRoot(kind, group, gender, word);
        proof.readAgain();
        return root;
    }

    public int setEnding(int group, int number, int form, int ending) throws IllegalArgumentException {
        if (!isBelow(group, GROUPS) || !isCell(number, form) || !isEnding(ending)) {
            throw new IllegalArgumentException();
        }
        int before = lexicon.takeEnding(group, CASES * number + form, ending);
        proof.readAgain();
        return before;
    }

    public int setSeam(int group, int last, int becomes) throws IllegalArgumentException {
        if (!isBelow(group, GROUPS) || !isLetterOrNothing(last) || last != 0 && !isLetterOrNothing(becomes)) {
            throw new IllegalArgumentException();
        }
        int before = lexicon.takeSeam(group, last, becomes);
        proof.readAgain();
        return before;
    }

    public int form(int root, int number, int form)
            throws IndexOutOfBoundsException, IllegalArgumentException, NoSuchElementException {
        if (!isBelow(root, lexicon.rootCount())) {
            throw new IndexOutOfBoundsException();
        }
        if (!isCell(number, form)) {
            throw new IllegalArgumentException();
        }
        int word = lexicon.formAt(CELLS * root + CASES * number + form);
        if (word == 0) {
            throw new NoSuchElementException();
        }
        return word;
    }

    // Words.

    public int readings(int word) throws IllegalArgumentException {
        if (!isWord(word)) {
            throw new IllegalArgumentException();
        }
        return Long.bitCount(lexicon.readingsOf(word));
    }

    public int reading(int word, int index) throws IllegalArgumentException, IndexOutOfBoundsException {
        if (!isWord(word)) {
            throw new IllegalArgumentException();
        }
        long all = lexicon.readingsOf(word);
        if (!isBelow(index, Long.bitCount(all))) {
            throw new IndexOutOfBoundsException();
        }
        int slot = slotAt(all, index);
        return slot / CELLS * 10 + slot % CELLS;
    }

    public int guess(int word) throws IllegalArgumentException, IllegalStateException, NoSuchElementException {
        if (!isWord(word)) {
            throw new IllegalArgumentException();
        }
        if (lexicon.readingsOf(word) != 0) {
            throw new IllegalStateException();
        }
        int told = lexicon.guessFor(word);
        if (told < 0) {
            throw new NoSuchElementException();
        }
        return told;
    }

    public int cost(int first, int second) throws IllegalArgumentException {
        if (!isWord(first) || !isWord(second)) {
            throw new IllegalArgumentException();
        }
        return speller.costOf(first, second);
    }

    public int suggestions(int word) throws IllegalArgumentException {
        if (!isWord(word)) {
            throw new IllegalArgumentException();
        }
        return speller.pickFor(word);
    }

    public int suggestion(int word, int index) throws IllegalArgumentException, IndexOutOfBoundsException {
        if (!isWord(word)) {
            throw new IllegalArgumentException();
        }
        if (!isBelow(index, speller.pickFor(word))) {
            throw new IndexOutOfBoundsException();
        }
        return lexicon.knownAt(speller.pickAt(index));
    }

    // Text.

    public int insert(int place, int token)
            throws IndexOutOfBoundsException, IllegalArgumentException, IllegalStateException {
        if (!isBelow(place, text.tokenCount() + 1)) {
            throw new IndexOutOfBoundsException();
        }
        if (!isToken(token)) {
            throw new IllegalArgumentException();
        }
        if (text.tokenCount() >= MOST_TOKENS) {
            throw new IllegalStateException();
        }
        text.putIn(place, token);
        proof.readAgain();
        return text.tokenCount();
    }

    public int remove(int place) throws IndexOutOfBoundsException {
        if (!isBelow(place, text.tokenCount())) {
            throw new IndexOutOfBoundsException();
        }
        int token = text.tokenAt(place);
        text.takeOut(place);
        proof.readAgain();
        return token;
    }

    public int replace(int place, int token) throws IndexOutOfBoundsException, IllegalArgumentException {
        if (!isBelow(place, text.tokenCount())) {
            throw new IndexOutOfBoundsException();
        }
        if (!isToken(token)) {
            throw new IllegalArgumentException();
        }
        int before = text.tokenAt(place);
        text.putOver(place, token);
        proof.readAgain();
        return before;
    }

    public int tokens() {
        return text.tokenCount();
    }

    public int token(int place) throws IndexOutOfBoundsException {
        if (!isBelow(place, text.tokenCount())) {
            throw new IndexOutOfBoundsException();
        }
        return text.tokenAt(place);
    }

    public int sentences() {
        return text.sentenceCount();
    }

    public int from(int sentence) throws IndexOutOfBoundsException {
        if (!isBelow(sentence, text.sentenceCount())) {
            throw new IndexOutOfBoundsException();
        }
        return text.startOf(sentence);
    }

    public int words(int sentence) throws IndexOutOfBoundsException {
        if (!isBelow(sentence, text.sentenceCount())) {
            throw new IndexOutOfBoundsException();
        }
        return text.sizeOf(sentence);
    }

    // Grammar.

    public int addCut(int ahead, int kind) throws IllegalArgumentException, IllegalStateException {
        if (!isBelow(ahead, KINDS) || !isBelow(kind, KINDS)) {
            throw new IllegalArgumentException();
        }
        if (grammar.cutCount() >= MOST_CUTS) {
            throw new IllegalStateException();
        }
        grammar.takeCut(ahead, kind);
        proof.readAgain();
        return grammar.cutCount();
    }

    public int addRule(int makes, int first, int second, int agree, boolean isSecond)
            throws IllegalArgumentException, IllegalStateException {
        if (makes < KINDS || !isBelow(makes, CATEGORIES) || !isBelow(first, CATEGORIES)
                || !isBelow(second, CATEGORIES) || !isBelow(agree, CATEGORIES)) {
            throw new IllegalArgumentException();
        }
        if (grammar.ruleCount() >= MOST_RULES) {
            throw new IllegalStateException();
        }
        grammar.takeRule(makes, first, second, agree, isSecond);
        proof.readAgain();
        return grammar.ruleCount();
    }

    public int left(int place) throws IndexOutOfBoundsException {
        if (!isBelow(place, text.tokenCount())) {
            throw new IndexOutOfBoundsException();
        }
        return proof.leftAt(place);
    }

    public long trees(int sentence) throws IndexOutOfBoundsException {
        if (!isBelow(sentence, text.sentenceCount())) {
            throw new IndexOutOfBoundsException();
        }
        return proof.treeCount(sentence);
    }

    public long treesAnew(int sentence) throws IndexOutOfBoundsException, UnsupportedOperationException {
        if (!isBelow(sentence, text.sentenceCount())) {
            throw new IndexOutOfBoundsException();
        }
        if (text.sizeOf(sentence) > MOST_WORDS_ANEW) {
            throw new UnsupportedOperationException();
        }
        return proof.treesOneByOne(sentence);
    }

    public int best(int sentence) throws IndexOutOfBoundsException, NoSuchElementException {
        if (!isBelow(sentence, text.sentenceCount())) {
            throw new IndexOutOfBoundsException();
        }
        // The number of trees is no test: as longs go round, it can be 0 where there are trees.
        if (!proof.hasTree(sentence)) {
            throw new NoSuchElementException();
        }
        return proof.leastWeight(sentence);
    }

    // Faults and edits.

    public char fault(int sentence) throws IndexOutOfBoundsException {
        if (!isBelow(sentence, text.sentenceCount())) {
            throw new IndexOutOfBoundsException();
        }
        if (proof.unknownIn(sentence) > 0) {
            return 'u';
        }
        return proof.hasTree(sentence) ? '-' : 'g';
    }

    public int badness() {
        return proof.wholeBadness();
    }

    public int edits() {
        return proof.editCount();
    }

    public int editPlace(int index) throws IndexOutOfBoundsException {
        if (!isBelow(index, proof.editCount())) {
            throw new IndexOutOfBoundsException();
        }
        return proof.editPlaceAt(index);
    }

    public int editWord(int index) throws IndexOutOfBoundsException {
        if (!isBelow(index, proof.editCount())) {
            throw new IndexOutOfBoundsException();
        }
        return proof.editWordAt(index);
    }

    public int apply(int index) throws IndexOutOfBoundsException {
        if (!isBelow(index, proof.editCount())) {
            throw new IndexOutOfBoundsException();
        }
        int before = proof.wholeBadness();
        text.putOver(proof.editPlaceAt(index), proof.editWordAt(index));
        proof.readAgain();
        return before - proof.wholeBadness();
    }

    // Figures.

    public float knownShare() throws ArithmeticException {
        int all = text.wordCount();
        if (all == 0) {
            throw new ArithmeticException();
        }
        return (float) (all - proof.unknownInAll()) / (float) all;
    }

    public double meanLeft() throws ArithmeticException {
        int all = text.wordCount();
        if (all == 0) {
            throw new ArithmeticException();
        }
        return (double) proof.leftInAll() / (double) all;
    }

    public boolean isSound() {
        int tried = Math.min(EDITS_PROVED, proof.editCount());
        return proof.hasSameTrees() && proof.hasGoodEdits(tried) && proof.hasTrueReadings();
    }

    private static boolean isBelow(int number, int bound) {
        return number >= 0 && number < bound;
    }

    private static boolean isCell(int number, int form) {
        return isBelow(number, NUMBERS) && isBelow(form, CASES);
    }

    private static boolean isLetterOrNothing(int letter) {
        return letter >= 0 && letter <= 8;
    }

    private static boolean isWord(int number) {
        return lettersOf(number, MOST_LETTERS) > 0;
    }

    private static boolean isToken(int number) {
        return number == STOP || isWord(number);
    }

    private static boolean isEnding(int number) {
        return number == NO_ENDING || number == 0 || lettersOf(number, MOST_ENDING_LETTERS) > 0;
    }

    /** How many letters a word has; 0 for what is no word with so many at most. */
    private static int lettersOf(int number, int most) {
        int rest = number;
        int letters = 0;
        while (letters < most && rest > 0) {
            int letter = rest % 10;
            if (letter < 1 || letter > 8) {
                return 0;
            }
            rest /= 10;
            letters++;
        }
        return rest == 0 ? letters : 0;
    }

    private static boolean hasBit(long bits, int at) {
        return (bits >> at & 1L) != 0;
    }

    /** The slot of a reading by its index among these, or -1. */
    private static int slotAt(long readings, int index) {
        int ahead = 0;
        for (int slot = 0; slot < SLOTS; slot++) {
            if (hasBit(readings, slot)) {
                if (ahead == index) {
                    return slot;
                }
                ahead++;
            }
        }
        return -1;
    }

    /** Roots, endings and seams, with the known words that they make, in rising order; readings are bits by slot. */
    private static final class Lexicon {
        private static final int ENDINGS = GROUPS * CELLS;
        private static final long ALL_CELLS = (1L << CELLS) - 1;

        private final int[] rootKinds = new int[MOST_ROOTS];
        private final int[] rootGroups = new int[MOST_ROOTS];
        private final int[] rootGenders = new int[MOST_ROOTS];
        private final int[] rootWords = new int[MOST_ROOTS];
        private final int[] endings = new int[ENDINGS];
        private final int[] seamLetters = new int[GROUPS];
        private final int[] seamBecomes = new int[GROUPS];
        private final int[] forms = new int[SLOTS];
        private final int[] nodes = new int[SLOTS];
        private final int[] knownWords = new int[SLOTS];
        private final long[] knownReadings = new long[SLOTS];
        private final long[] kindReadings = new long[KINDS];
        private int roots;
        private int knowns;

        Lexicon() {
            for (int i = 0; i < ENDINGS; i++) {
                endings[i] = NO_ENDING;
            }
        }

        int rootCount() {
            return roots;
        }

        int takeRoot(int kind, int group, int gender, int word) {
            int root = roots;
            rootKinds[root] = kind;
            rootGroups[root] = group;
            rootGenders[root] = gender;
            rootWords[root] = word;
            roots++;
            makeForms();
            return root;
        }

        int takeEnding(int group, int cell, int ending) {
            int before = endings[CELLS * group + cell];
            endings[CELLS * group + cell] = ending;
            makeForms();
            return before;
        }

        int takeSeam(int group, int last, int becomes) {
            int before = seamLetters[group];
            seamLetters[group] = last;
            seamBecomes[group] = becomes;
            makeForms();
            return before;
        }

        int formAt(int slot) {
            return forms[slot];
        }

        /** Category and features of a reading as a tree, see Grammar. */
        int nodeAt(int slot) {
            return nodes[slot];
        }

        int knownCount() {
            return knowns;
        }

        int knownAt(int index) {
            return knownWords[index];
        }

        long knownReadingsAt(int index) {
            return knownReadings[index];
        }

        long readingsOfKind(int kind) {
            return kindReadings[kind];
        }

        long readingsOf(int word) {
            int index = indexFor(word);
            return index < knowns && knownWords[index] == word ? knownReadings[index] : 0;
        }

        /** The indexes of all known words, as bits, that are forms of the roots of these readings. */
        long relatedTo(long readings) {
            long ofRoots = 0;
            for (int root = 0; root < roots; root++) {
                long ofRoot = ALL_CELLS << CELLS * root;
                if ((readings & ofRoot) != 0) {
                    ofRoots |= ofRoot;
                }
            }
            long related = 0;
            for (int index = 0; index < knowns; index++) {
                if ((knownReadings[index] & ofRoots) != 0) {
                    related |= 1L << index;
                }
            }
            return related;
        }

        /** 10 times the group plus the cell, or -1. */
        int guessFor(int word) {
            int ofTwo = word > 100 ? endingLike(word % 100) : -1;
            if (ofTwo >= 0 || word < 10) {
                return ofTwo;
            }
            return endingLike(word % 10);
        }

        private int endingLike(int tail) {
            for (int i = 0; i < ENDINGS; i++) {
                if (endings[i] == tail) {
                    return i / CELLS * 10 + i % CELLS;
                }
            }
            return -1;
        }

        private void makeForms() {
            knowns = 0;
            for (int kind = 0; kind < KINDS; kind++) {
                kindReadings[kind] = 0;
            }
            for (int root = 0; root < roots; root++) {
                kindReadings[rootKinds[root]] |= ALL_CELLS << CELLS * root;
                for (int cell = 0; cell < CELLS; cell++) {
                    makeForm(root, cell);
                }
            }
        }

        private void makeForm(int root, int cell) {
            int slot = CELLS * root + cell;
            nodes[slot] = Grammar.nodeOf(rootKinds[root], rootGenders[root], cell / CASES, cell % CASES);
            forms[slot] = joined(root, endings[CELLS * rootGroups[root] + cell]);
            if (forms[slot] != 0) {
                know(forms[slot], 1L << slot);
            }
        }

        /** The word of a root and an ending, 0 without one. */
        private int joined(int root, int ending) {
            if (ending == NO_ENDING) {
                return 0;
            }
            if (ending == 0) {
                return rootWords[root];
            }
            return afterSeam(rootWords[root], rootGroups[root]) * (ending < 10 ? 10 : 100) + ending;
        }

        private int afterSeam(int word, int group) {
            if (word < 10 || word % 10 != seamLetters[group]) {
                return word;
            }
            int becomes = seamBecomes[group];
            return becomes == 0 ? word / 10 : word / 10 * 10 + becomes;
        }

        private void know(int word, long reading) {
            int index = indexFor(word);
            if (index == knowns || knownWords[index] != word) {
                for (int i = knowns; i > index; i--) {
                    knownWords[i] = knownWords[i - 1];
                    knownReadings[i] = knownReadings[i - 1];
                }
                knownWords[index] = word;
                knownReadings[index] = 0;
                knowns++;
            }
            knownReadings[index] |= reading;
        }

        /** The index at which a known word stands or would stand. */
        private int indexFor(int word) {
            int index = 0;
            while (index < knowns && knownWords[index] < word) {
                index++;
            }
            return index;
        }
    }

    /** Costs, and the known words that are picked as suggestions. */
    private static final class Speller {
        private static final int WIDTH = MOST_LETTERS + 1;

        private final Lexicon lexicon;
        private final int[] first = new int[MOST_LETTERS];
        private final int[] second = new int[MOST_LETTERS];
        private final int[] table = new int[WIDTH * WIDTH];
        private final int[] costs = new int[SLOTS];
        private final int[] picks = new int[MOST_SUGGESTIONS];
        private long pickSet;

        Speller(Lexicon lexicon) {
            this.lexicon = lexicon;
        }

        int costOf(int one, int other) {
            int rows = spell(one, first);
            int columns = spell(other, second);
            for (int i = 0; i <= rows; i++) {
                for (int j = 0; j <= columns; j++) {
                    table[WIDTH * i + j] = costUpTo(i, j);
                }
            }
            return table[WIDTH * rows + columns];
        }

        /** How many suggestions there are; their indexes among the known words are the picks. */
        int pickFor(int word) {
            int letters = lettersOf(word, MOST_LETTERS);
            for (int index = 0; index < lexicon.knownCount(); index++) {
                int known = lexicon.knownAt(index);
                // So many letters more or less cost too much by themselves, so most words need no table.
                boolean isFar = 2 * Math.abs(letters - lettersOf(known, MOST_LETTERS)) > MOST_COST;
                costs[index] = isFar ? MOST_COST + 1 : costOf(word, known);
            }
            int picked = 0;
            pickSet = 0;
            // Only the word itself costs 0 beside it.
            for (int cost = 1; cost <= MOST_COST; cost++) {
                for (int index = 0; index < lexicon.knownCount() && picked < MOST_SUGGESTIONS; index++) {
                    if (costs[index] == cost) {
                        picks[picked] = index;
                        pickSet |= 1L << index;
                        picked++;
                    }
                }
            }
            return picked;
        }

        int pickAt(int index) {
            return picks[index];
        }

        /** The last picks as bits. */
        long pickSet() {
            return pickSet;
        }

        /** The letters from the last one on: both words are turned round, so their cost stays the same. */
        private static int spell(int word, int[] letters) {
            int rest = word;
            int count = 0;
            while (count < MOST_LETTERS && rest > 0) {
                letters[count] = rest % 10;
                rest /= 10;
                count++;
            }
            return count;
        }

        private int costUpTo(int i, int j) {
            if (i == 0 || j == 0) {
                return 2 * (i + j);
            }
            int at = WIDTH * i + j;
            int inPlace = Math.min(2, Math.abs(first[i - 1] - second[j - 1]));
            int least = Math.min(table[at - WIDTH], table[at - 1]) + 2;
            least = Math.min(least, table[at - WIDTH - 1] + inPlace);
            if (i > 1 && j > 1 && first[i - 1] == second[j - 2] && first[i - 2] == second[j - 1]) {
                least = Math.min(least, table[at - 2 * WIDTH - 2] + 1);
            }
            return least;
        }
    }

    /** The tokens and the sentences into which they fall. */
    private static final class Text {
        private final int[] row = new int[MOST_TOKENS];
        private final int[] starts = new int[MOST_SENTENCES];
        private final int[] sizes = new int[MOST_SENTENCES];
        private int count;
        private int sentenceCount;
        private int wordCount;

        int tokenCount() {
            return count;
        }

        int tokenAt(int place) {
            return row[place];
        }

        int sentenceCount() {
            return sentenceCount;
        }

        int startOf(int sentence) {
            return starts[sentence];
        }

        int sizeOf(int sentence) {
            return sizes[sentence];
        }

        int wordCount() {
            return wordCount;
        }

        void putIn(int place, int token) {
            for (int i = count; i > place; i--) {
                row[i] = row[i - 1];
            }
            row[place] = token;
            count++;
            divide();
        }

        void takeOut(int place) {
            count--;
            for (int i = place; i < count; i++) {
                row[i] = row[i + 1];
            }
            divide();
        }

        void putOver(int place, int token) {
            row[place] = token;
            divide();
        }

        private void divide() {
            sentenceCount = 0;
            wordCount = 0;
            boolean isInside = false;
            for (int place = 0; place < count; place++) {
                boolean isOfSentence = row[place] != STOP;
                if (isOfSentence && !isInside) {
                    starts[sentenceCount] = place;
                    sizes[sentenceCount] = 0;
                    sentenceCount++;
                }
                if (isOfSentence) {
                    sizes[sentenceCount - 1]++;
                    wordCount++;
                }
                isInside = isOfSentence;
            }
        }
    }

    /**
     * Cuts and rules. A node is what a rule sees of a tree: 32 times the category plus its features, which are 8 times
     * the gender plus 4 times the number plus the case, so that what agrees is a mask of bits.
     */
    private static final class Grammar {
        private static final int CATEGORY_SHIFT = 5;
        private static final int GENDER_BITS = 24;
        private static final int NUMBER_BITS = 4;
        private static final int CASE_BITS = 3;
        private static final int FEATURE_BITS = 31;

        private final int[] cutAheads = new int[MOST_CUTS];
        private final int[] cutKinds = new int[MOST_CUTS];
        private final int[] makes = new int[MOST_RULES];
        private final int[] firsts = new int[MOST_RULES];
        private final int[] seconds = new int[MOST_RULES];
        private final int[] agreeBits = new int[MOST_RULES];
        private final boolean[] secondHeads = new boolean[MOST_RULES];
        private int cuts;
        private int rules;

        static int nodeOf(int kind, int gender, int number, int form) {
            return 32 * kind + 8 * gender + 4 * number + form;
        }

        static int categoryOf(int node) {
            return node >> CATEGORY_SHIFT;
        }

        static int featuresOf(int node) {
            return node & FEATURE_BITS;
        }

        int cutCount() {
            return cuts;
        }

        int ruleCount() {
            return rules;
        }

        void takeCut(int ahead, int kind) {
            cutAheads[cuts] = ahead;
            cutKinds[cuts] = kind;
            cuts++;
        }

        void takeRule(int category, int first, int second, int agree, boolean isSecond) {
            makes[rules] = category;
            firsts[rules] = first;
            seconds[rules] = second;
            agreeBits[rules] = ((agree & 1) != 0 ? GENDER_BITS : 0) | ((agree & 2) != 0 ? NUMBER_BITS : 0)
                    | ((agree & 4) != 0 ? CASE_BITS : 0);
            secondHeads[rules] = isSecond;
            rules++;
        }

        int madeBy(int rule) {
            return makes[rule];
        }

        int firstOf(int rule) {
            return firsts[rule];
        }

        int secondOf(int rule) {
            return seconds[rule];
        }

        int agreeBitsOf(int rule) {
            return agreeBits[rule];
        }

        boolean isSecondHead(int rule) {
            return secondHeads[rule];
        }

        /**
         * What the cuts leave of a word's readings. Once through all cuts is enough if the word ahead has been cut
         * before: then nothing about it changes any more, and a cut that finds no other readings never will.
         */
        long cutBehind(long ahead, long own, Lexicon lexicon) {
            long rest = own;
            for (int cut = 0; cut < cuts; cut++) {
                boolean isAhead = ahead != 0 && (ahead & ~lexicon.readingsOfKind(cutAheads[cut])) == 0;
                long others = rest & ~lexicon.readingsOfKind(cutKinds[cut]);
                if (isAhead && others != 0) {
                    rest = others;
                }
            }
            return rest;
        }

        boolean fits(int rule, int first, int second) {
            return first >> CATEGORY_SHIFT == firsts[rule] && second >> CATEGORY_SHIFT == seconds[rule]
                    && ((first ^ second) & agreeBits[rule]) == 0;
        }

        int joined(int rule, int first, int second) {
            return 32 * makes[rule] + featuresOf(secondHeads[rule] ? second : first);
        }

        /** Of a set of features, as bits, all that are the same as one of it in what agrees. */
        static int spread(int set, int agree) {
            int all = set;
            if ((agree & GENDER_BITS) == 0) {
                int low = (all | all >> 8 | all >> 16) & 0xFF;
                all = low | low << 8 | low << 16;
            }
            if ((agree & NUMBER_BITS) == 0) {
                int low = (all | all >> 4) & 0x0F0F0F;
                all = low | low << 4;
            }
            if ((agree & CASE_BITS) == 0) {
                int low = (all | all >> 1 | all >> 2) & 0x111111;
                all = low | low << 1 | low << 2;
            }
            return all;
        }
    }

    /** All trees of the parts of a row of words, by their category and features; a spot is a part. */
    private static final class Chart {
        private static final int SPOTS = MOST_TOKENS * (MOST_TOKENS + 1) / 2;
        private static final int FEATURES = 24;
        private static final int NO_WEIGHT = 1000000;

        private final Lexicon lexicon;
        private final Grammar grammar;
        /** The features, as bits, of the trees of a spot and a category, at CATEGORIES * spot + category. */
        private final int[] sets = new int[SPOTS * CATEGORIES];
        /** How many trees, and their least weight, by features too; old numbers stay where the set is empty. */
        private final long[] counts = new long[SPOTS * CATEGORIES * FEATURES];
        private final int[] weights = new int[SPOTS * CATEGORIES * FEATURES];
        private final long[] sideCounts = new long[FEATURES];
        private final int[] sideWeights = new int[FEATURES];

        Chart(Lexicon lexicon, Grammar grammar) {
            this.lexicon = lexicon;
            this.grammar = grammar;
        }

        boolean hasTree(long[] left, int start, int size) {
            for (int last = 0; last < size; last++) {
                for (int first = last; first >= 0; first--) {
                    int spot = spotOf(first, last);
                    empty(spot);
                    if (first == last) {
                        putWord(spot, left[start + last]);
                    }
                    for (int split = first; split < last; split++) {
                        join(spot, spotOf(first, split), spotOf(split + 1, last));
                    }
                }
            }
            return sets[topOf(size)] != 0;
        }

        /** As longs go round, this can be 0 where there are trees. */
        long countTrees(long[] left, int start, int size) {
            number(left, start, size);
            int top = topOf(size);
            long sum = 0;
            for (int features = 0; features < FEATURES && sets[top] != 0; features++) {
                sum += counts[FEATURES * top + features];
            }
            return sum;
        }

        /** The least weight of a tree, or NO_WEIGHT. */
        int leastWeight(long[] left, int start, int size) {
            number(left, start, size);
            int top = topOf(size);
            int least = NO_WEIGHT;
            for (int features = 0; features < FEATURES && sets[top] != 0; features++) {
                least = Math.min(least, weights[FEATURES * top + features]);
            }
            return least;
        }

        private static int topOf(int size) {
            return CATEGORIES * spotOf(0, size - 1) + TOP;
        }

        private static int spotOf(int first, int last) {
            return last * (last + 1) / 2 + first;
        }

        private void empty(int spot) {
            for (int category = 0; category < CATEGORIES; category++) {
                sets[CATEGORIES * spot + category] = 0;
            }
        }

        private void putWord(int spot, long readings) {
            for (int slot = 0; slot < SLOTS; slot++) {
                if (hasBit(readings, slot)) {
                    int node = lexicon.nodeAt(slot);
                    sets[CATEGORIES * spot + Grammar.categoryOf(node)] |= 1 << Grammar.featuresOf(node);
                }
            }
        }

        private void join(int spot, int firstSpot, int secondSpot) {
            for (int rule = 0; rule < grammar.ruleCount(); rule++) {
                int first = sets[CATEGORIES * firstSpot + grammar.firstOf(rule)];
                int second = sets[CATEGORIES * secondSpot + grammar.secondOf(rule)];
                if (first != 0 && second != 0) {
                    int head = grammar.isSecondHead(rule) ? second : first;
                    int side = grammar.isSecondHead(rule) ? first : second;
                    int found = head & Grammar.spread(side, grammar.agreeBitsOf(rule));
                    sets[CATEGORIES * spot + grammar.madeBy(rule)] |= found;
                }
            }
        }

        /** Fills in the numbers behind the sets; edits try many rows of words and need the sets alone. */
        private void number(long[] left, int start, int size) {
            hasTree(left, start, size);
            for (int last = 0; last < size; last++) {
                for (int first = last; first >= 0; first--) {
                    int spot = spotOf(first, last);
                    clearNumbers(spot);
                    if (first == last) {
                        numberWord(spot, left[start + last]);
                    }
                    for (int split = first; split < last; split++) {
                        numberJoin(spot, spotOf(first, split), spotOf(split + 1, last));
                    }
                }
            }
        }

        private void clearNumbers(int spot) {
            for (int category = 0; category < CATEGORIES; category++) {
                int at = CATEGORIES * spot + category;
                for (int features = 0; features < FEATURES && sets[at] != 0; features++) {
                    counts[FEATURES * at + features] = 0;
                    weights[FEATURES * at + features] = NO_WEIGHT;
                }
            }
        }

        private void numberWord(int spot, long readings) {
            for (int slot = 0; slot < SLOTS; slot++) {
                if (hasBit(readings, slot)) {
                    int node = lexicon.nodeAt(slot);
                    int at = CATEGORIES * spot + Grammar.categoryOf(node);
                    counts[FEATURES * at + Grammar.featuresOf(node)]++;
                    weights[FEATURES * at + Grammar.featuresOf(node)] = 0;
                }
            }
        }

        private void numberJoin(int spot, int firstSpot, int secondSpot) {
            for (int rule = 0; rule < grammar.ruleCount(); rule++) {
                int first = CATEGORIES * firstSpot + grammar.firstOf(rule);
                int second = CATEGORIES * secondSpot + grammar.secondOf(rule);
                if (sets[first] != 0 && sets[second] != 0) {
                    int head = grammar.isSecondHead(rule) ? second : first;
                    int side = grammar.isSecondHead(rule) ? first : second;
                    numberRule(rule, CATEGORIES * spot + grammar.madeBy(rule), head, side);
                }
            }
        }

        /** Features that a head does not have add nothing: their count is 0, and no weight is above all weights. */
        private void numberRule(int rule, int whole, int head, int side) {
            int agree = grammar.agreeBitsOf(rule);
            sumSide(side, agree);
            for (int features = 0; features < FEATURES; features++) {
                int of = FEATURES * head + features;
                int into = FEATURES * whole + features;
                int weight = weights[of] + sideWeights[features & agree] + rule + 1;
                counts[into] += counts[of] * sideCounts[features & agree];
                weights[into] = Math.min(weights[into], weight);
            }
        }

        /** The numbers of the trees beside a head, together for those that are the same in what agrees. */
        private void sumSide(int side, int agree) {
            for (int features = 0; features < FEATURES; features++) {
                sideCounts[features] = 0;
                sideWeights[features] = NO_WEIGHT;
            }
            for (int features = 0; features < FEATURES; features++) {
                int key = features & agree;
                sideCounts[key] += counts[FEATURES * side + features];
                sideWeights[key] = Math.min(sideWeights[key], weights[FEATURES * side + features]);
            }
        }
    }

    /** The trees of a short row of words, gone through one by one. */
    private static final class Walk {
        private final Lexicon lexicon;
        private final Grammar grammar;
        private final int[] nodes = new int[MOST_WORDS_ANEW * SLOTS];
        private final int[] nodeCounts = new int[MOST_WORDS_ANEW];

        Walk(Lexicon lexicon, Grammar grammar) {
            this.lexicon = lexicon;
            this.grammar = grammar;
        }

        /** A single word has no tree with the category 7, for only rules make it. */
        long countAll(long[] left, int start, int size) {
            for (int word = 0; word < size && word < MOST_WORDS_ANEW; word++) {
                list(word, left[start + word]);
            }
            long found = 0;
            for (int rule = 0; rule < grammar.ruleCount(); rule++) {
                if (grammar.madeBy(rule) == TOP && size == 2) {
                    found += countPairs(rule);
                }
                if (grammar.madeBy(rule) == TOP && size == 3) {
                    found += countTriples(rule);
                }
            }
            return found;
        }

        private void list(int word, long readings) {
            nodeCounts[word] = 0;
            for (int slot = 0; slot < SLOTS; slot++) {
                if (hasBit(readings, slot)) {
                    nodes[SLOTS * word + nodeCounts[word]] = lexicon.nodeAt(slot);
                    nodeCounts[word]++;
                }
            }
        }

        private long countPairs(int rule) {
            long found = 0;
            for (int i = 0; i < nodeCounts[0]; i++) {
                found += countBehind(rule, nodes[i], 1);
            }
            return found;
        }

        private long countTriples(int rule) {
            long found = 0;
            for (int inner = 0; inner < grammar.ruleCount(); inner++) {
                if (grammar.madeBy(inner) == grammar.firstOf(rule)) {
                    found += countWith(rule, inner, 0);
                }
                if (grammar.madeBy(inner) == grammar.secondOf(rule)) {
                    found += countWith(rule, inner, 1);
                }
            }
            return found;
        }

        /** The trees in which an inner rule joins a word and the next one. */
        private long countWith(int rule, int inner, int word) {
            long found = 0;
            for (int i = 0; i < nodeCounts[word]; i++) {
                for (int j = 0; j < nodeCounts[word + 1]; j++) {
                    int first = nodes[SLOTS * word + i];
                    int second = nodes[SLOTS * (word + 1) + j];
                    if (grammar.fits(inner, first, second)) {
                        int node = grammar.joined(inner, first, second);
                        found += word == 0 ? countBehind(rule, node, 2) : countAhead(rule, node);
                    }
                }
            }
            return found;
        }

        private long countBehind(int rule, int node, int word) {
            long found = 0;
            for (int i = 0; i < nodeCounts[word]; i++) {
                if (grammar.fits(rule, node, nodes[SLOTS * word + i])) {
                    found++;
                }
            }
            return found;
        }

        private long countAhead(int rule, int node) {
            long found = 0;
            for (int i = 0; i < nodeCounts[0]; i++) {
                if (grammar.fits(rule, nodes[i], node)) {
                    found++;
                }
            }
            return found;
        }
    }

    /** What is found in the text: the readings that are left, faults and edits. */
    private static final class Proof {
        private final Lexicon lexicon;
        private final Speller speller;
        private final Grammar grammar;
        private final Text text;
        private final Chart chart;
        private final Walk walk;
        private final long[] readings = new long[MOST_TOKENS];
        private final long[] left = new long[MOST_TOKENS];
        private final int[] editPlaces = new int[MOST_EDITS];
        private final int[] editWords = new int[MOST_EDITS];
        private int edits;
        /** Edits are dear to find, so they are kept until something changes. */
        private boolean hasEdits;

        Proof(Lexicon lexicon, Speller speller, Grammar grammar, Text text) {
            this.lexicon = lexicon;
            this.speller = speller;
            this.grammar = grammar;
            this.text = text;
            chart = new Chart(lexicon, grammar);
            walk = new Walk(lexicon, grammar);
        }

        /** To be called behind every change of anything. */
        void readAgain() {
            readTokens();
            hasEdits = false;
        }

        int leftAt(int place) {
            return Long.bitCount(left[place]);
        }

        int leftInAll() {
            int sum = 0;
            for (int place = 0; place < text.tokenCount(); place++) {
                sum += Long.bitCount(left[place]);
            }
            return sum;
        }

        long treeCount(int sentence) {
            return chart.countTrees(left, text.startOf(sentence), text.sizeOf(sentence));
        }

        long treesOneByOne(int sentence) {
            return walk.countAll(left, text.startOf(sentence), text.sizeOf(sentence));
        }

        int leastWeight(int sentence) {
            return chart.leastWeight(left, text.startOf(sentence), text.sizeOf(sentence));
        }

        boolean hasTree(int sentence) {
            return chart.hasTree(left, text.startOf(sentence), text.sizeOf(sentence));
        }

        int unknownIn(int sentence) {
            int start = text.startOf(sentence);
            int unknown = 0;
            for (int place = start; place < start + text.sizeOf(sentence); place++) {
                if (readings[place] == 0) {
                    unknown++;
                }
            }
            return unknown;
        }

        int unknownInAll() {
            int unknown = 0;
            for (int sentence = 0; sentence < text.sentenceCount(); sentence++) {
                unknown += unknownIn(sentence);
            }
            return unknown;
        }

        int wholeBadness() {
            int sum = 0;
            for (int sentence = 0; sentence < text.sentenceCount(); sentence++) {
                sum += badnessOf(sentence);
            }
            return sum;
        }

        int editCount() {
            if (!hasEdits) {
                edits = 0;
                for (int sentence = 0; sentence < text.sentenceCount(); sentence++) {
                    findEdits(sentence, badnessOf(sentence));
                }
                hasEdits = true;
            }
            return edits;
        }

        int editPlaceAt(int index) {
            return editPlaces[index];
        }

        int editWordAt(int index) {
            return editWords[index];
        }

        boolean hasSameTrees() {
            for (int sentence = 0; sentence < text.sentenceCount(); sentence++) {
                boolean isShort = text.sizeOf(sentence) <= MOST_WORDS_ANEW;
                int start = text.startOf(sentence);
                int size = text.sizeOf(sentence);
                if (isShort && chart.countTrees(left, start, size) != walk.countAll(left, start, size)) {
                    return false;
                }
            }
            return true;
        }

        /** Tries this many of the edits that have been found. */
        boolean hasGoodEdits(int tried) {
            int before = wholeBadness();
            boolean isGood = true;
            for (int index = 0; index < tried; index++) {
                int place = editPlaces[index];
                int token = text.tokenAt(place);
                text.putOver(place, editWords[index]);
                readTokens();
                isGood = isGood && wholeBadness() < before;
                text.putOver(place, token);
                readTokens();
            }
            return isGood;
        }

        boolean hasTrueReadings() {
            for (int place = 0; place < text.tokenCount(); place++) {
                int slot = slotAt(readings[place], 0);
                if (slot >= 0 && lexicon.formAt(slot) != text.tokenAt(place)) {
                    return false;
                }
            }
            return true;
        }

        private void readTokens() {
            for (int place = 0; place < text.tokenCount(); place++) {
                readings[place] = lexicon.readingsOf(text.tokenAt(place));
                left[place] = readings[place];
            }
            for (int sentence = 0; sentence < text.sentenceCount(); sentence++) {
                cutSentence(sentence);
            }
        }

        private void cutSentence(int sentence) {
            int start = text.startOf(sentence);
            left[start] = readings[start];
            for (int place = start + 1; place < start + text.sizeOf(sentence); place++) {
                left[place] = grammar.cutBehind(left[place - 1], readings[place], lexicon);
            }
        }

        private int badnessOf(int sentence) {
            int unknown = unknownIn(sentence);
            if (unknown > 0) {
                return 2 * unknown;
            }
            return chart.hasTree(left, text.startOf(sentence), text.sizeOf(sentence)) ? 0 : 1;
        }

        /** The indexes of the known words, as bits, that are tried for a word. */
        private long triedAt(int place) {
            if (readings[place] != 0) {
                return lexicon.relatedTo(readings[place]);
            }
            speller.pickFor(text.tokenAt(place));
            return speller.pickSet();
        }

        private void findEdits(int sentence, int badness) {
            int start = text.startOf(sentence);
            for (int place = start; place < start + text.sizeOf(sentence) && badness > 0; place++) {
                long own = readings[place];
                int word = text.tokenAt(place);
                long tried = triedAt(place);
                // Known words stand in rising order, and so do the edits.
                for (int index = 0; index < lexicon.knownCount() && edits < MOST_EDITS; index++) {
                    if (hasBit(tried, index) && lexicon.knownAt(index) != word) {
                        readings[place] = lexicon.knownReadingsAt(index);
                        cutSentence(sentence);
                        if (badnessOf(sentence) < badness) {
                            editPlaces[edits] = place;
                            editWords[edits] = lexicon.knownAt(index);
                            edits++;
                        }
                    }
                }
                readings[place] = own;
                cutSentence(sentence);
            }
        }
    }
}
