import java.util.NoSuchElementException;

/**
 * Grammars of rules read line by line, the states of their parser with one letter to look ahead,
 * texts that are parsed, and all the cheapest ways to repair a text where it goes wrong.
 *
 * All rows are made with the object and used again by every call, so that a long run of calls
 * takes no more room than a short one.
 */
public final class RepairDesk {
    private static final int NONE = -1;
    private static final int LETTERS = 6;
    private static final int NAMES = 6;
    // A symbol is a letter (0 .. 5) or a name (6 .. 11).
    private static final int SYMBOLS = LETTERS + NAMES;

    // What may follow an item is a letter or the END; sets of them are bits.
    private static final int END = LETTERS;
    private static final int FOLLOWS = LETTERS + 1;
    private static final int LETTER_BITS = (1 << LETTERS) - 1;
    // No row begins with the END, so its bit says in a set of beginnings that the empty row is there.
    private static final int EMPTY_BIT = 1 << END;

    private static final int MOST_SIGNS = 10;
    private static final int MOST_RULES = 10;
    private static final int MOST_SIDE = 4;
    private static final int MOST_WRITTEN_TEXT = 8;
    private static final int MOST_TEXT = 16;
    private static final int MOST_STATES = 40;
    private static final int MOST_COST = 3;
    private static final int MOST_GUARD = 3;
    private static final int MOST_PASSES = 3;
    private static final int MOST_REPAIRS = 40;
    // Each step costs 1 at least or is one of the passes.
    private static final int MOST_STEPS = MOST_COST + MOST_PASSES;

    // The one more rule of the document, and the one that is being read, stand behind the others.
    private static final int ROOT = MOST_RULES;
    private static final int DRAFT = MOST_RULES + 1;
    private static final int RULE_ROWS = MOST_RULES + 2;

    private static final int TAKE = 6;
    private static final int PASS = 7;

    private final Line line;
    private final Grammar grammar;
    private final States states;
    private final Text text;
    private final Costs costs;
    private final Stacks stacks;
    private final Finds finds;
    private final Search search;

    public RepairDesk() {
        line = new Line();
        grammar = new Grammar();
        states = new States();
        text = new Text();
        costs = new Costs();
        stacks = new Stacks(grammar, states);
        finds = new Finds();
        search = new Search(stacks, text, costs, finds);
    }

    public boolean write(char c) {
        return line.add(c);
    }

    public int rule() throws IllegalArgumentException, IllegalStateException {
        boolean isRule = grammar.readDraft(line);
        line.clear();
        if (!isRule || grammar.knowsDraft()) {
            throw new IllegalArgumentException("the line is no new rule");
        }
        int number = grammar.addDraft();
        if (number < 0) {
            throw new IllegalStateException("there are ten rules");
        }
        states.forget();
        finds.forget();
        return number;
    }

    public int compile() throws IllegalStateException, UnsupportedOperationException {
        finds.forget();
        states.forget();
        if (grammar.ruleCount() == 0) {
            throw new IllegalStateException("there are no rules");
        }
        if (!grammar.prepare()) {
            throw new UnsupportedOperationException("no row of letters comes of the start");
        }
        if (!states.build(grammar)) {
            throw new UnsupportedOperationException("the grammar is too great or not good");
        }
        return states.stateCount();
    }

    public int text() throws IllegalArgumentException {
        boolean isText = text.readFrom(line);
        line.clear();
        if (!isText) {
            throw new IllegalArgumentException("the line is no row of up to eight letters");
        }
        finds.forget();
        return text.size();
    }

    public boolean cost(int letter, boolean out, int c) {
        return costs.change(letter, out, c);
    }

    public int parse() throws IllegalStateException {
        if (states.stateCount() == 0) {
            throw new IllegalStateException("nothing is compiled");
        }
        return stacks.wrongPlace(text);
    }

    public int repair(int guard)
            throws IllegalStateException, IllegalArgumentException, UnsupportedOperationException {
        finds.forget();
        if (states.stateCount() == 0) {
            throw new IllegalStateException("nothing is compiled");
        }
        if (guard < 0 || guard > MOST_GUARD) {
            throw new IllegalArgumentException("the guard is not 0 .. 3");
        }
        if (!search.findBest(guard)) {
            finds.forget();
            throw new UnsupportedOperationException("there are more than forty repairs");
        }
        return finds.size();
    }

    public int step(int k, int i) {
        return finds.stepAt(k, i);
    }

    public int price() {
        return finds.priceOfAll();
    }

    public int reach(int k) throws NoSuchElementException {
        if (!finds.has(k)) {
            throw new NoSuchElementException("there is no such repair");
        }
        return finds.reachOf(k);
    }

    public int apply(int k) throws NoSuchElementException, IllegalStateException {
        if (!finds.has(k)) {
            throw new NoSuchElementException("there is no such repair");
        }
        if (text.size() + finds.growthBy(k) > MOST_TEXT) {
            throw new IllegalStateException("the text would have more than sixteen letters");
        }
        text.mend(finds, k);
        finds.forget();
        return text.size();
    }

    public int letter(int i) {
        return text.letterAt(i);
    }

    public int count(int what) {
        switch (what) {
            case 0:
                return grammar.ruleCount();
            case 1:
                return states.stateCount();
            case 2:
                return states.itemCount();
            default:
                return NONE;
        }
    }

    /** The line that is written. */
    private static final class Line {
        private final char[] signs = new char[MOST_SIGNS];
        private int length;

        boolean add(char c) {
            if (c < 32 || c > 126 || length >= MOST_SIGNS) {
                return false;
            }
            signs[length] = c;
            length++;
            return true;
        }

        void clear() {
            length = 0;
        }

        int size() {
            return length;
        }

        boolean isEqualsSign(int i) {
            return i >= 0 && i < length && signs[i] == '=';
        }

        /** The letter or name at a place; NONE when there is another sign, or nothing. */
        int symbolAt(int i) {
            if (i < 0 || i >= length) {
                return NONE;
            }
            char c = signs[i];
            if (c >= 'a' && c <= 'f') {
                return c - 'a';
            }
            if (c >= 'A' && c <= 'F') {
                return LETTERS + (c - 'A');
            }
            return NONE;
        }
    }

    /** The rules, which of them are left out, and with what the rows begin that come of the names. */
    private static final class Grammar {
        private final int[] lefts = new int[RULE_ROWS];
        private final int[] sizes = new int[RULE_ROWS];
        private final int[] rights = new int[RULE_ROWS * MOST_SIDE];
        private final boolean[] used = new boolean[RULE_ROWS];
        private final boolean[] fruitful = new boolean[NAMES];
        private final int[] firsts = new int[NAMES];
        private int made;

        int ruleCount() {
            return made;
        }

        boolean readDraft(Line line) {
            int size = line.size() - 2;
            int name = line.symbolAt(0);
            if (size < 0 || size > MOST_SIDE || name < LETTERS || !line.isEqualsSign(1)) {
                return false;
            }
            for (int i = 0; i < size; i++) {
                int symbol = line.symbolAt(i + 2);
                if (symbol < 0) {
                    return false;
                }
                rights[DRAFT * MOST_SIDE + i] = symbol;
            }
            lefts[DRAFT] = name;
            sizes[DRAFT] = size;
            return true;
        }

        boolean knowsDraft() {
            for (int r = 0; r < made; r++) {
                if (isLikeDraft(r)) {
                    return true;
                }
            }
            return false;
        }

        private boolean isLikeDraft(int rule) {
            if (lefts[rule] != lefts[DRAFT] || sizes[rule] != sizes[DRAFT]) {
                return false;
            }
            for (int i = 0; i < sizes[rule]; i++) {
                if (rights[rule * MOST_SIDE + i] != rights[DRAFT * MOST_SIDE + i]) {
                    return false;
                }
            }
            return true;
        }

        /** The new rule's number; NONE when there is no room. */
        int addDraft() {
            if (made >= MOST_RULES) {
                return NONE;
            }
            lefts[made] = lefts[DRAFT];
            sizes[made] = sizes[DRAFT];
            for (int i = 0; i < MOST_SIDE; i++) {
                rights[made * MOST_SIDE + i] = rights[DRAFT * MOST_SIDE + i];
            }
            made++;
            return made - 1;
        }

        /** True when some row of letters comes of the start; the states can be made then. */
        boolean prepare() {
            if (made == 0) {
                return false;
            }
            findUsed();
            findFirsts();
            lefts[ROOT] = NONE;
            sizes[ROOT] = 1;
            rights[ROOT * MOST_SIDE] = lefts[0];
            used[ROOT] = true;
            return isFruitful(lefts[0]);
        }

        private void findUsed() {
            for (int n = 0; n < NAMES; n++) {
                fruitful[n] = false;
            }
            for (int r = 0; r < RULE_ROWS; r++) {
                used[r] = false;
            }
            boolean more = true;
            // Each round but the last one finds a rule.
            for (int round = 0; more && round <= MOST_RULES; round++) {
                more = false;
                for (int r = 0; r < made; r++) {
                    if (!used[r] && hasFruitfulSide(r)) {
                        used[r] = true;
                        fruitful[lefts[r] - LETTERS] = true;
                        more = true;
                    }
                }
            }
        }

        private boolean hasFruitfulSide(int rule) {
            for (int i = 0; i < sizes[rule]; i++) {
                if (!isFruitful(rights[rule * MOST_SIDE + i])) {
                    return false;
                }
            }
            return true;
        }

        private boolean isFruitful(int symbol) {
            return symbol < LETTERS || (symbol < SYMBOLS && fruitful[symbol - LETTERS]);
        }

        private void findFirsts() {
            for (int n = 0; n < NAMES; n++) {
                firsts[n] = 0;
            }
            boolean more = true;
            // Each round but the last one sets a bit.
            for (int round = 0; more && round <= NAMES * FOLLOWS; round++) {
                more = false;
                for (int r = 0; r < made; r++) {
                    int name = lefts[r] - LETTERS;
                    int bits = used[r] ? firsts[name] | beginnings(r, 0) : firsts[name];
                    if (bits != firsts[name]) {
                        firsts[name] = bits;
                        more = true;
                    }
                }
            }
        }

        /** The letters that rows of the right side from a place on begin with, and EMPTY_BIT. */
        int beginnings(int rule, int place) {
            int bits = EMPTY_BIT;
            for (int i = place; i < sizeOf(rule) && (bits & EMPTY_BIT) != 0; i++) {
                int symbol = symbolAt(rule, i);
                bits &= ~EMPTY_BIT;
                if (symbol >= LETTERS) {
                    bits |= firsts[symbol - LETTERS];
                } else if (symbol >= 0) {
                    bits |= 1 << symbol;
                }
            }
            return bits;
        }

        boolean isUsed(int rule) {
            return rule >= 0 && rule < RULE_ROWS && used[rule];
        }

        /** The name on the left; NONE for the ROOT. */
        int nameOf(int rule) {
            return rule >= 0 && rule < RULE_ROWS ? lefts[rule] : NONE;
        }

        int sizeOf(int rule) {
            return rule >= 0 && rule < RULE_ROWS ? sizes[rule] : 0;
        }

        /** The symbol behind a place of the right side; NONE at its end. */
        int symbolAt(int rule, int place) {
            if (place < 0 || place >= sizeOf(rule)) {
                return NONE;
            }
            return rights[rule * MOST_SIDE + place];
        }
    }

    /** The states: for each rule and place of it the set of what may follow. */
    private static final class States {
        private static final int PLACES = MOST_SIDE + 1;
        private static final int CELLS = (ROOT + 1) * PLACES;
        private static final int TOO_GREAT = MOST_STATES;

        // One row more than there may be states, for the set that is being made.
        private final int[] sets = new int[(MOST_STATES + 1) * CELLS];
        private final int[] targets = new int[MOST_STATES * SYMBOLS];
        private final int[] reduced = new int[MOST_STATES * FOLLOWS];
        private int made;
        private int items;

        void forget() {
            made = 0;
            items = 0;
        }

        int stateCount() {
            return made;
        }

        int itemCount() {
            return items;
        }

        /** The state behind a symbol; NONE when there is none. */
        int targetOf(int state, int symbol) {
            if (state < 0 || state >= made || symbol < 0 || symbol >= SYMBOLS) {
                return NONE;
            }
            return targets[state * SYMBOLS + symbol];
        }

        /** The rule that is at its end in a state, when that may follow; NONE when there is none. */
        int reducedBy(int state, int follow) {
            if (state < 0 || state >= made || follow < 0 || follow >= FOLLOWS) {
                return NONE;
            }
            return reduced[state * FOLLOWS + follow];
        }

        /** False when the grammar is too great or not good; there are no states then. */
        boolean build(Grammar grammar) {
            forget();
            clearSet(0);
            sets[ROOT * PLACES] = 1 << END;
            close(grammar, 0);
            made = 1;
            if (!makeTargets(grammar) || !makeReduced(grammar)) {
                forget();
                return false;
            }
            for (int i = 0; i < made * CELLS; i++) {
                items += Integer.bitCount(sets[i]);
            }
            return true;
        }

        private boolean makeTargets(Grammar grammar) {
            for (int state = 0; state < made && state < MOST_STATES; state++) {
                for (int symbol = 0; symbol < SYMBOLS; symbol++) {
                    int target = enter(grammar, state, symbol);
                    if (target == TOO_GREAT) {
                        return false;
                    }
                    targets[state * SYMBOLS + symbol] = target;
                }
            }
            return true;
        }

        private int enter(Grammar grammar, int state, int symbol) {
            if (!moveBehind(grammar, state, symbol)) {
                return NONE;
            }
            close(grammar, made);
            for (int known = 0; known < made; known++) {
                if (isSameAsNew(known)) {
                    return known;
                }
            }
            if (made >= MOST_STATES) {
                return TOO_GREAT;
            }
            made++;
            return made - 1;
        }

        private void clearSet(int row) {
            for (int i = row * CELLS; i < (row + 1) * CELLS && i < sets.length; i++) {
                sets[i] = 0;
            }
        }

        /** The new set becomes the moved items, not yet closed; false when no item has the symbol. */
        private boolean moveBehind(Grammar grammar, int state, int symbol) {
            boolean some = false;
            clearSet(made);
            for (int rule = 0; rule <= ROOT; rule++) {
                for (int place = 0; place < grammar.sizeOf(rule); place++) {
                    int cell = rule * PLACES + place;
                    int follows = sets[state * CELLS + cell];
                    if (follows != 0 && grammar.symbolAt(rule, place) == symbol) {
                        sets[made * CELLS + cell + 1] = follows;
                        some = true;
                    }
                }
            }
            return some;
        }

        private void close(Grammar grammar, int row) {
            boolean more = true;
            // Each round but the last one adds an item at place 0.
            for (int round = 0; more && round <= MOST_RULES * FOLLOWS; round++) {
                more = false;
                for (int rule = 0; rule <= ROOT; rule++) {
                    for (int place = 0; place < grammar.sizeOf(rule); place++) {
                        int follows = sets[row * CELLS + rule * PLACES + place];
                        int symbol = grammar.symbolAt(rule, place);
                        if (follows != 0 && symbol >= LETTERS) {
                            int bits = grammar.beginnings(rule, place + 1);
                            int next = (bits & EMPTY_BIT) != 0 ? (bits & LETTER_BITS) | follows : bits;
                            more |= addRulesOf(grammar, row, symbol, next);
                        }
                    }
                }
            }
        }

        private boolean addRulesOf(Grammar grammar, int row, int name, int follows) {
            boolean more = false;
            for (int rule = 0; rule < MOST_RULES; rule++) {
                int cell = row * CELLS + rule * PLACES;
                if (grammar.isUsed(rule) && grammar.nameOf(rule) == name
                        && (sets[cell] | follows) != sets[cell]) {
                    sets[cell] |= follows;
                    more = true;
                }
            }
            return more;
        }

        private boolean isSameAsNew(int known) {
            for (int cell = 0; cell < CELLS; cell++) {
                if (sets[known * CELLS + cell] != sets[made * CELLS + cell]) {
                    return false;
                }
            }
            return true;
        }

        /** False when some state has a conflict. */
        private boolean makeReduced(Grammar grammar) {
            for (int state = 0; state < made; state++) {
                for (int follow = 0; follow < FOLLOWS; follow++) {
                    reduced[state * FOLLOWS + follow] = NONE;
                }
                for (int rule = 0; rule <= ROOT; rule++) {
                    if (grammar.isUsed(rule) && !reduceAtEnd(state, rule, grammar.sizeOf(rule))) {
                        return false;
                    }
                }
            }
            return true;
        }

        private boolean reduceAtEnd(int state, int rule, int size) {
            int follows = sets[state * CELLS + rule * PLACES + size];
            for (int follow = 0; follow < FOLLOWS; follow++) {
                if ((follows & (1 << follow)) != 0) {
                    boolean shifted = follow != END && targetOf(state, follow) >= 0;
                    if (shifted || reducedBy(state, follow) >= 0) {
                        return false;
                    }
                    reduced[state * FOLLOWS + follow] = rule;
                }
            }
            return true;
        }
    }

    /** The text. */
    private static final class Text {
        private final int[] letters = new int[MOST_TEXT];
        private final int[] mended = new int[MOST_TEXT];
        private int length;

        int size() {
            return length;
        }

        int letterAt(int i) {
            return i >= 0 && i < length ? letters[i] : NONE;
        }

        /** False when the line is no text; the old one stays then. */
        boolean readFrom(Line line) {
            int size = line.size();
            if (size > MOST_WRITTEN_TEXT) {
                return false;
            }
            for (int i = 0; i < size; i++) {
                int symbol = line.symbolAt(i);
                if (symbol < 0 || symbol >= LETTERS) {
                    return false;
                }
            }
            for (int i = 0; i < size; i++) {
                letters[i] = line.symbolAt(i);
            }
            length = size;
            return true;
        }

        void mend(Finds finds, int k) {
            int at = finds.wrongPlace();
            int size = copyInto(0, 0, at);
            for (int i = 0; i < finds.lengthOf(k) && i < MOST_STEPS; i++) {
                int step = finds.stepAt(k, i);
                if (step == PASS) {
                    size = copyInto(size, at, at + 1);
                } else if (step != TAKE && size < MOST_TEXT) {
                    mended[size] = step;
                    size++;
                }
                if (step == PASS || step == TAKE) {
                    at++;
                }
            }
            length = copyInto(size, at, length);
            for (int i = 0; i < length; i++) {
                letters[i] = mended[i];
            }
        }

        private int copyInto(int size, int from, int to) {
            int next = size;
            for (int i = from; i < to && i < length && next < MOST_TEXT; i++) {
                mended[next] = letters[i];
                next++;
            }
            return next;
        }
    }

    /** What it costs to put letters in and to take them out. */
    private static final class Costs {
        private final int[] puts = new int[LETTERS];
        private final int[] takes = new int[LETTERS];

        Costs() {
            for (int i = 0; i < LETTERS; i++) {
                puts[i] = 1;
                takes[i] = 1;
            }
        }

        boolean change(int letter, boolean out, int c) {
            if (letter < 0 || letter >= LETTERS || c < 1 || c > MOST_COST) {
                return false;
            }
            if (out) {
                takes[letter] = c;
            } else {
                puts[letter] = c;
            }
            return true;
        }

        /** More than any repair may cost, when there is no such letter. */
        int ofPutting(int letter) {
            return letter >= 0 && letter < LETTERS ? puts[letter] : MOST_COST + 1;
        }

        /** More than any repair may cost, when there is no such letter. */
        int ofTaking(int letter) {
            return letter >= 0 && letter < LETTERS ? takes[letter] : MOST_COST + 1;
        }
    }

    /**
     * Parsers that have read a row of letters: the stack of states of each.
     *
     * Nothing is merged in the states, so a state has a move for a letter (or the END) just when
     * the letters read and that one are the beginning of a sentence (or a sentence): a look at the
     * uppermost state tells it, and a stack is never changed for a letter that goes wrong.
     */
    private static final class Stacks {
        // At most 19 letters are read (16, and 3 put in). Between two of them a good grammar opens
        // no name twice behind names of empty rows (one letter ahead could not tell how often), so
        // 6 names with 3 symbols before each stand there at the most: this is beyond all need.
        private static final int HEIGHT = 512;
        // One parser for each step of a repair, one before them, one for the rest of the text.
        private static final int STACKS = MOST_STEPS + 2;
        private static final int SCRATCH = STACKS - 1;
        private static final int MOST_MOVES = 1000000;

        private final Grammar grammar;
        private final States states;
        private final int[] cells = new int[STACKS * HEIGHT];
        private final int[] heights = new int[STACKS];

        Stacks(Grammar grammar, States states) {
            this.grammar = grammar;
            this.states = states;
        }

        /** Where the text goes wrong, NONE if it does not; stack 0 has read what stands before. */
        int wrongPlace(Text text) {
            cells[0] = 0;
            heights[0] = 1;
            int read = 0;
            while (read < text.size() && feed(0, 0, text.letterAt(read))) {
                read++;
            }
            return read == text.size() && isSentence(0) ? NONE : read;
        }

        boolean isSentence(int stack) {
            return canMove(stack, END);
        }

        /** Stack "to" becomes stack "from" with one letter more; false when that goes wrong. */
        boolean feed(int from, int to, int letter) {
            boolean known = letter >= 0 && letter < LETTERS && to >= 0 && to < STACKS;
            if (!known || !canMove(from, letter)) {
                return false;
            }
            copy(from, to);
            for (int moves = 0; moves < MOST_MOVES; moves++) {
                int rule = states.reducedBy(topOf(to), letter);
                if (rule < 0) {
                    return replace(to, 0, letter);
                }
                if (!replace(to, grammar.sizeOf(rule), grammar.nameOf(rule))) {
                    return false;
                }
            }
            return false;
        }

        private boolean canMove(int stack, int follow) {
            int state = topOf(stack);
            return states.reducedBy(state, follow) >= 0
                    || (follow != END && states.targetOf(state, follow) >= 0);
        }

        private int topOf(int stack) {
            if (stack < 0 || stack >= STACKS || heights[stack] < 1) {
                return NONE;
            }
            return cells[stack * HEIGHT + heights[stack] - 1];
        }

        private void copy(int from, int to) {
            if (from < 0 || from >= STACKS || to < 0 || to >= STACKS || from == to) {
                return;
            }
            System.arraycopy(cells, from * HEIGHT, cells, to * HEIGHT, heights[from]);
            heights[to] = heights[from];
        }

        /** The uppermost states of a stack give way to that of a symbol. */
        private boolean replace(int stack, int removed, int symbol) {
            int height = heights[stack] - removed;
            if (height < 1 || height >= HEIGHT) {
                return false;
            }
            int target = states.targetOf(cells[stack * HEIGHT + height - 1], symbol);
            if (target < 0) {
                return false;
            }
            cells[stack * HEIGHT + height] = target;
            heights[stack] = height + 1;
            return true;
        }
    }

    /** The repairs that were found. */
    private static final class Finds {
        private final int[] steps = new int[MOST_REPAIRS * MOST_STEPS];
        private final int[] lengths = new int[MOST_REPAIRS];
        private final int[] reaches = new int[MOST_REPAIRS];
        private int found;
        private int price;
        private int wrongAt;

        void forget() {
            found = 0;
            price = 0;
            wrongAt = 0;
        }

        void setPlace(int place) {
            wrongAt = place;
        }

        int wrongPlace() {
            return wrongAt;
        }

        int size() {
            return found;
        }

        boolean has(int k) {
            return k >= 0 && k < found;
        }

        int priceOfAll() {
            return price;
        }

        int lengthOf(int k) {
            return has(k) ? lengths[k] : 0;
        }

        int stepAt(int k, int i) {
            return i >= 0 && i < lengthOf(k) ? steps[k * MOST_STEPS + i] : NONE;
        }

        int reachOf(int k) {
            return has(k) ? reaches[k] : 0;
        }

        /** By how many letters the text grows. */
        int growthBy(int k) {
            int growth = 0;
            for (int i = 0; i < lengthOf(k); i++) {
                int step = steps[k * MOST_STEPS + i];
                if (step == TAKE) {
                    growth--;
                } else if (step != PASS) {
                    growth++;
                }
            }
            return growth;
        }

        /** False when there is no room for one more. */
        boolean add(int[] path, int length, int reach, int cost) {
            if (found >= MOST_REPAIRS || length > MOST_STEPS || length > path.length) {
                return false;
            }
            for (int i = 0; i < length; i++) {
                steps[found * MOST_STEPS + i] = path[i];
            }
            lengths[found] = length;
            reaches[found] = reach;
            price = cost;
            found++;
            return true;
        }
    }

    /** The search for the best repairs: all rows of steps of one cost, in their order. */
    private static final class Search {
        private final Stacks stacks;
        private final Text text;
        private final Costs costs;
        private final Finds finds;
        private final int[] path = new int[MOST_STEPS];
        private int guard;
        private int budget;
        private boolean tooMany;

        Search(Stacks stacks, Text text, Costs costs, Finds finds) {
            this.stacks = stacks;
            this.text = text;
            this.costs = costs;
            this.finds = finds;
        }

        /** False when there are more than there may be. */
        boolean findBest(int letters) {
            int place = stacks.wrongPlace(text);
            guard = letters;
            tooMany = false;
            if (place < 0) {
                return true;
            }
            finds.setPlace(place);
            for (int cost = 1; cost <= MOST_COST && finds.size() == 0; cost++) {
                budget = cost;
                explore(0, 0, place, cost, 0);
            }
            return !tooMany;
        }

        /** Tries all next steps behind "depth" steps, which leave "left" to be spent. */
        private void explore(int depth, int stack, int place, int left, int passes) {
            if (depth >= MOST_STEPS || left <= 0 || tooMany) {
                return;
            }
            boolean behindTake = depth > 0 && path[depth - 1] == TAKE;
            for (int letter = 0; letter < LETTERS && !behindTake; letter++) {
                int rest = left - costs.ofPutting(letter);
                if (rest >= 0 && stacks.feed(stack, stack + 1, letter)) {
                    path[depth] = letter;
                    follow(depth + 1, stack + 1, place, rest, passes);
                }
            }
            int next = text.letterAt(place);
            int rest = left - costs.ofTaking(next);
            if (rest >= 0) {
                path[depth] = TAKE;
                follow(depth + 1, stack, place + 1, rest, passes);
            }
            if (passes < MOST_PASSES && stacks.feed(stack, stack + 1, next)) {
                path[depth] = PASS;
                follow(depth + 1, stack + 1, place + 1, left, passes + 1);
            }
        }

        private void follow(int depth, int stack, int place, int left, int passes) {
            // What is cheaper than the budget does not help: it was looked for before.
            if (left > 0) {
                explore(depth, stack, place, left, passes);
            } else {
                keepIfHelping(depth, stack, place);
            }
        }

        private void keepIfHelping(int depth, int stack, int place) {
            int reach = 0;
            int behind = stack;
            while (place + reach < text.size()
                    && stacks.feed(behind, Stacks.SCRATCH, text.letterAt(place + reach))) {
                behind = Stacks.SCRATCH;
                reach++;
            }
            boolean atEnd = place + reach == text.size();
            if (reach >= guard || (atEnd && stacks.isSentence(behind))) {
                tooMany |= !finds.add(path, depth, reach, budget);
            }
        }
    }
}
