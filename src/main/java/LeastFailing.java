import java.util.Arrays;

/**
 * A reducer of failing inputs: it keeps a grammar of trees, an input and bugs, and makes the input
 * smaller while it fails the same way. The words in capitals are those of the document.
 */
public final class LeastFailing {
    public static final int NONE = -1;

    private static final int WRONG_NUMBERS = -2;
    private static final int WRONG_STATE = -3;

    private static final int MAX_BYTES = 1000;
    private static final int MAX_LINES = 24;
    private static final int MAX_SORTS = 6;
    private static final int MAX_BEHIND = 4;
    private static final int MAX_NODES = 80;
    private static final int MAX_OPEN = 12;
    private static final int MAX_BUGS = 6;
    private static final int MAX_NESTED = 6;
    private static final int MAX_TRIED = 600;
    private static final int MAX_ACTS = 10;
    /** No step of a TEST is told in less than three bytes, taken together. */
    private static final int MAX_STEPS = MAX_BYTES / 3;
    private static final int MAX_VOTES = 9;
    private static final int MAX_OFTEN = 1000;
    private static final int LETTERS = 6;

    /** Far above what a run can need: loops whose end the document does not tell stop here. */
    private static final int ENOUGH_TURNS = 100000;

    private static final int FAULT_TEXT = 1;
    private static final int FAULT_ODDS = 2;
    private static final int FAULT_NAME = 3;
    private static final int FAULT_MANY = 4;
    private static final int FAULT_STAND = 5;

    private static final int COUNT_SIZE = 0;
    private static final int COUNT_DEEP = 1;
    private static final int COUNT_HAS = 2;
    private static final int COUNT_UNDER = 3;
    private static final int COUNT_NEXT = 4;

    private static final int CUT = 0;
    private static final int LEAST = 1;
    private static final int HOIST = 2;

    private static final int FOR_ITSELF = 0;
    private static final int FOR_WHOLE_ROW = 1;
    private static final int FOR_PART_KEPT = 2;
    private static final int FOR_PART_GONE = 3;
    private static final int FOR_HOIST = 4;
    private static final int FOR_CUT = 5;
    private static final int FOR_SINGLE = 6;

    private static final int BY_LEVELS = 0;
    private static final int BY_HOISTS = 1;
    private static final int BY_CUTS = 2;
    private static final int BY_ALL = 3;

    private final Text text = new Text();
    private final Grammar grammar = new Grammar();
    private final Grammar readGrammar = new Grammar();
    private final Bugs bugs = new Bugs();
    private final Bugs readBugs = new Bugs();
    private final Tree input = new Tree(grammar);
    private final Tree made = new Tree(grammar);
    private final Tree[] past = new Tree[MAX_ACTS];
    private int acts;
    private final InputReader inputReader = new InputReader(text, grammar, made);
    private final BugsReader bugsReader = new BugsReader(text, grammar, readBugs);
    private final Tried tried = new Tried();
    private final Judge judge = new Judge(bugs, tried);
    private final Single single = new Single(input);
    private final Reducer reducer = new Reducer(input, made, judge);

    public LeastFailing() {
        for (int i = 0; i < MAX_ACTS; i++) {
            past[i] = new Tree(grammar);
        }
    }

    public int feed(int a, int b, int c, int d, int e) {
        if (text.length + 20 > MAX_BYTES) {
            return NONE;
        }
        text.append(a);
        text.append(b);
        text.append(c);
        text.append(d);
        text.append(e);
        return text.length;
    }

    public boolean end(int n) {
        if (n < 0 || n > text.length) {
            return false;
        }
        text.length = n;
        return true;
    }

    public int grammar() {
        boolean good = GrammarReader.readAll(text, readGrammar);
        text.length = 0;
        if (!good) {
            return NONE;
        }
        grammar.copyFrom(readGrammar);
        input.clear();
        bugs.clear();
        acts = 0;
        tried.forget();
        return grammar.lines;
    }

    public int input() {
        if (grammar.lines == 0) {
            text.length = 0;
            return WRONG_STATE;
        }
        boolean good = inputReader.readAll();
        text.length = 0;
        if (!good) {
            return NONE;
        }
        remember();
        input.copyFrom(made);
        tried.forget();
        return input.nodes;
    }

    public int bugs() {
        if (grammar.lines == 0) {
            text.length = 0;
            return WRONG_STATE;
        }
        boolean good = bugsReader.readAll();
        text.length = 0;
        if (!good) {
            return NONE;
        }
        bugs.copyFrom(readBugs);
        tried.forget();
        return bugs.many;
    }

    public int fault(int what) {
        if (what == 0) {
            return text.fault;
        }
        return what == 1 ? text.faultPlace : NONE;
    }

    public int votes(int n) {
        if (!canVote(n)) {
            return WRONG_NUMBERS;
        }
        int before = judge.votes;
        judge.votes = n;
        tried.forget();
        return before;
    }

    public int seed(int seed) {
        if (seed < 0) {
            return WRONG_NUMBERS;
        }
        judge.seed = seed;
        tried.forget();
        return 1;
    }

    // ---- what there is

    public int count(int what) {
        switch (what) {
            case 0: return grammar.lines;
            case 1: return grammar.sorts;
            case 2: return input.nodes;
            case 3: return bugs.many;
            case 4: return judge.votes;
            case 5: return tried.many;
            case 6: return judge.again;
            case 7: return judge.runs;
            case 8: return judge.out;
            case 9: return judge.seed;
            case 10: return acts;
            case 11: return input.nodes == 0 ? NONE : input.deepest;
            default: return NONE;
        }
    }

    public int letter(int kind, int k, int i) {
        if (i < 0 || i >= LETTERS || k < 0) {
            return NONE;
        }
        if (kind == 0 && k < grammar.lines) {
            return Text.letterOf(grammar.names[k], i);
        }
        if (kind == 1 && k < grammar.sorts) {
            return Text.letterOf(grammar.sortNames[k], i);
        }
        if (kind == 2 && k < bugs.many) {
            return Text.letterOf(bugs.names[k], i);
        }
        return NONE;
    }

    public int line(int line, int what) {
        if (line < 0 || line >= grammar.lines) {
            return NONE;
        }
        switch (what) {
            case 0: return grammar.isForm[line] ? 1 : 0;
            case 1: return grammar.sortOf[line];
            case 2: return grammar.behind[line];
            case 3: return grammar.hasStar[line] ? 1 : 0;
            default: break;
        }
        if (what < 10 || what - 10 >= grammar.behind[line]) {
            return NONE;
        }
        return grammar.sortBehind(line, what - 10);
    }

    public int least(int sort, int k) {
        if (sort < 0 || sort >= grammar.sorts) {
            return NONE;
        }
        if (k == NONE) {
            return grammar.leastSize[sort];
        }
        return k < 0 || k >= grammar.leastSize[sort] ? NONE : grammar.leastName(sort, k);
    }

    public int node(int node, int what) {
        if (node < 0 || node >= input.nodes) {
            return WRONG_NUMBERS;
        }
        switch (what) {
            case 0: return input.names[node];
            case 1: return input.sortAt(node);
            case 2: return input.levels[node];
            case 3: return input.sizes[node];
            case 4: return input.parts[node];
            case 5: return input.parents[node];
            case 6: return input.places[node];
            case 7: return input.canCut(node) ? 1 : 0;
            default: return WRONG_NUMBERS;
        }
    }

    public int holding() {
        return input.nodes == 0 ? NONE : bugs.bitsFor(input);
    }

    public int counts(int what, int a, int b) {
        if (input.nodes == 0 || what < COUNT_SIZE || what > COUNT_NEXT) {
            return NONE;
        }
        if (what >= COUNT_HAS && (a < 0 || a >= grammar.lines)) {
            return NONE;
        }
        if (what >= COUNT_UNDER && (b < 0 || b >= grammar.lines)) {
            return NONE;
        }
        return input.countOf(what, a, b);
    }

    // ---- verdicts, changes

    public int verdict() {
        return input.nodes == 0 ? NONE : judge.ask(input, FOR_ITSELF, NONE);
    }

    public int run(int x) {
        if (x < 0 || input.nodes == 0) {
            return NONE;
        }
        int kept = judge.seed;
        judge.seed = x;
        int told = judge.runOnce(bugs.bitsFor(input));
        judge.seed = kept;
        return told;
    }

    public int single(int k, int what) {
        if (k == NONE) {
            return what == 0 ? single.howMany() : NONE;
        }
        if (what < 0 || what > 4 || !single.goTo(k)) {
            return NONE;
        }
        switch (what) {
            case 0: return single.node;
            case 1: return single.kind;
            case 2: return single.kind == HOIST ? single.other : NONE;
            default: break;
        }
        makeSingle();
        return what == 3 ? made.nodes : bugs.bitsFor(made);
    }

    public int tries(int k) {
        if (!single.goTo(k)) {
            return WRONG_NUMBERS;
        }
        return askSingle();
    }

    public int change(int k) {
        if (!single.goTo(k)) {
            return WRONG_NUMBERS;
        }
        makeSingle();
        remember();
        input.copyFrom(made);
        return input.nodes;
    }

    public int more() {
        if (input.nodes == 0) {
            return WRONG_STATE;
        }
        int due = judge.ask(input, FOR_ITSELF, NONE);
        if (due == NONE) {
            return WRONG_STATE;
        }
        single.start();
        for (int k = 0; k < ENOUGH_TURNS && single.step(); k++) {
            if (askSingle() == due) {
                return k;
            }
        }
        return NONE;
    }

    public int apart(int bug, int other) {
        if (!isBug(bug) || !isBug(other) || bug == other) {
            return WRONG_NUMBERS;
        }
        if (input.nodes == 0) {
            return WRONG_STATE;
        }
        single.start();
        for (int k = 0; k < ENOUGH_TURNS && single.step(); k++) {
            makeSingle();
            int bits = bugs.bitsFor(made);
            if ((bits >> bug & 1) == 1 && (bits >> other & 1) == 0) {
                return k;
            }
        }
        return NONE;
    }

    // ---- reduced

    public int reduce(int bug, int how) {
        if (!isBug(bug) || how < BY_LEVELS || how > BY_ALL) {
            return WRONG_NUMBERS;
        }
        if (input.nodes == 0 || judge.ask(input, FOR_ITSELF, NONE) != bug) {
            return WRONG_STATE;
        }
        remember();
        reducer.start(bug);
        for (int round = 0; round < ENOUGH_TURNS; round++) {
            int before = reducer.taken;
            if (how == BY_LEVELS || how == BY_ALL) {
                reducer.byLevels();
            }
            if (how == BY_HOISTS || how == BY_ALL) {
                reducer.byHoists();
            }
            if (how == BY_CUTS || how == BY_ALL) {
                reducer.byCuts();
            }
            if (how != BY_ALL || reducer.taken == before) {
                break;
            }
        }
        return reducer.taken;
    }

    public int row(int level, int k) {
        if (input.nodes == 0 || level < 1) {
            return NONE;
        }
        int many = 0;
        for (int i = 0; i < input.nodes; i++) {
            if (input.isInRow(i, level)) {
                if (many == k) {
                    return i;
                }
                many++;
            }
        }
        return k == NONE ? many : NONE;
    }

    public int part(int many, int n, int i, int what) {
        if (many < 1 || many > MAX_NODES || n < 1 || n > many || i < 0 || i >= n) {
            return NONE;
        }
        int from = Reducer.partStart(many, n, i);
        if (what == 0) {
            return from;
        }
        return what == 1 ? Reducer.partStart(many, n, i + 1) - from : NONE;
    }

    public int tried(int verdict) {
        if (verdict != NONE && !isBug(verdict)) {
            return WRONG_NUMBERS;
        }
        int many = 0;
        for (int i = 0; i < tried.many; i++) {
            if (tried.verdicts[i] == verdict) {
                many++;
            }
        }
        return many;
    }

    public int trace(int k, int what) {
        if (k < 0 || k >= tried.many) {
            return WRONG_NUMBERS;
        }
        switch (what) {
            case 0: return tried.sizes[k];
            case 1: return tried.verdicts[k];
            case 2: return tried.reasons[k];
            case 3: return tried.wheres[k];
            default: return WRONG_NUMBERS;
        }
    }

    // ---- votes

    public int sure(int odds, int n) {
        return areOdds(odds) && canVote(n) ? millionths(odds, n) : WRONG_NUMBERS;
    }

    public int enough(int odds, int sure) {
        if (!areOdds(odds) || sure < 0 || sure > 1000000) {
            return WRONG_NUMBERS;
        }
        for (int n = 1; n <= MAX_VOTES; n += 2) {
            if (millionths(odds, n) >= sure) {
                return n;
            }
        }
        return NONE;
    }

    public int often(int bug, int x, int n) {
        if ((bug != NONE && !isBug(bug)) || x < 0 || n < 1 || n > MAX_OFTEN) {
            return WRONG_NUMBERS;
        }
        if (input.nodes == 0) {
            return WRONG_STATE;
        }
        int bits = bugs.bitsFor(input);
        int kept = judge.seed;
        judge.seed = x;
        int many = 0;
        for (int i = 0; i < n; i++) {
            if (judge.runOnce(bits) == bug) {
                many++;
            }
        }
        judge.seed = kept;
        return many;
    }

    // ---- back

    public int undo() {
        if (acts < 1) {
            return WRONG_STATE;
        }
        acts--;
        input.copyFrom(past[acts]);
        tried.forget();
        return acts;
    }

    private boolean isBug(int bug) {
        return bug >= 0 && bug < bugs.many;
    }

    private static boolean canVote(int n) {
        return n >= 1 && n <= MAX_VOTES && n % 2 == 1;
    }

    private static boolean areOdds(int odds) {
        return odds >= 0 && odds <= 100;
    }

    /** Keeps the INPUT as it is ahead of an act; the oldest of more than ten acts is let go. */
    private void remember() {
        if (acts == MAX_ACTS) {
            Tree oldest = past[0];
            for (int i = 1; i < MAX_ACTS; i++) {
                past[i - 1] = past[i];
            }
            past[MAX_ACTS - 1] = oldest;
            acts--;
        }
        past[acts].copyFrom(input);
        acts++;
    }

    private void makeSingle() {
        made.becomeSingle(input, single.kind, single.node, single.other);
    }

    private int askSingle() {
        makeSingle();
        return judge.ask(made, FOR_SINGLE, single.node);
    }

    /** SURE: the sum of all ways in which more than half of n RUNS show it, each exactly, then cut. */
    private static int millionths(int odds, int n) {
        long sum = 0;
        for (int shown = n / 2 + 1; shown <= n; shown++) {
            sum += waysOf(n, shown) * powerOf(odds, shown) * powerOf(100 - odds, n - shown);
        }
        return (int) (n < 3 ? sum * 10000 : sum / powerOf(100, n - 3));
    }

    private static long waysOf(int n, int chosen) {
        long ways = 1;
        for (int i = 0; i < chosen; i++) {
            ways = ways * (n - i) / (i + 1);
        }
        return ways;
    }

    private static long powerOf(int base, int exponent) {
        long power = 1;
        for (int i = 0; i < exponent; i++) {
            power *= base;
        }
        return power;
    }

    /** The tape, and the reading of it word by word; it keeps the FAULT of the latest reading. */
    private static final class Text {
        private static final int AT_END = 0;
        private static final int WORD = 1;
        private static final int NUMBER = 2;
        private static final int SIGN = 3;
        private static final int NEVER = 4;

        // WORDS are numbers: five bits a letter, the first letter highest.
        private static final int FORM = 6 << 25 | 15 << 20 | 18 << 15 | 13 << 10;
        private static final int LEAF = 12 << 25 | 5 << 20 | 1 << 15 | 6 << 10;
        private static final int BUG = 2 << 25 | 21 << 20 | 7 << 15;
        private static final int ODDS = 15 << 25 | 4 << 20 | 4 << 15 | 19 << 10;
        private static final int WHEN = 23 << 25 | 8 << 20 | 5 << 15 | 14 << 10;
        private static final int OR = 15 << 25 | 18 << 20;
        private static final int AND = 1 << 25 | 14 << 20 | 4 << 15;
        private static final int NOT = 14 << 25 | 15 << 20 | 20 << 15;
        private static final int SIZE = 19 << 25 | 9 << 20 | 26 << 15 | 5 << 10;
        private static final int DEEP = 4 << 25 | 5 << 20 | 5 << 15 | 16 << 10;
        private static final int HAS = 8 << 25 | 1 << 20 | 19 << 15;
        private static final int UNDER = 21 << 25 | 14 << 20 | 4 << 15 | 5 << 10 | 18 << 5;
        private static final int NEXT = 14 << 25 | 5 << 20 | 24 << 15 | 20 << 10;
        private static final int[] OWN_WORDS = {
            FORM, LEAF, BUG, ODDS, WHEN, OR, AND, NOT, SIZE, DEEP, HAS, UNDER, NEXT
        };

        private final byte[] bytes = new byte[MAX_BYTES];
        private int length;
        private int at;
        private int kind;
        private int place;
        private int value;
        private int fault;
        private int faultPlace = NONE;

        static int letterOf(int word, int i) {
            return (word >> (25 - 5 * i)) & 31;
        }

        void append(int number) {
            for (int shift = 24; shift >= 0 && length < MAX_BYTES; shift -= 8) {
                bytes[length] = (byte) (number >> shift);
                length++;
            }
        }

        void start() {
            at = 0;
            kind = AT_END;
            fault = 0;
            faultPlace = NONE;
            advance();
        }

        /** Notes the FAULT at what was read last; false, so that readers can answer with it. */
        boolean fail(int which) {
            fault = which;
            faultPlace = place;
            return false;
        }

        /** Reads on: what stands next is in kind, place and value. */
        void advance() {
            boolean mayTouch = kind != WORD && kind != NUMBER;
            int before = at;
            while (at < length && (bytes[at] == ' ' || bytes[at] == '\n')) {
                at++;
            }
            place = at;
            if (at >= length) {
                kind = AT_END;
            } else if (isLetter(bytes[at])) {
                advanceWord(mayTouch || at > before);
            } else if (isDigit(bytes[at])) {
                advanceNumber(mayTouch || at > before);
            } else {
                kind = SIGN;
                value = bytes[at];
                at++;
            }
        }

        private void advanceWord(boolean stands) {
            int letters = 0;
            value = 0;
            for (; at < length && isLetter(bytes[at]); at++) {
                if (letters < LETTERS) {
                    value |= (bytes[at] - 'a' + 1) << (25 - 5 * letters);
                }
                letters++;
            }
            kind = stands && letters <= LETTERS ? WORD : NEVER;
        }

        private void advanceNumber(boolean stands) {
            int digits = 0;
            value = 0;
            for (; at < length && isDigit(bytes[at]); at++) {
                if (digits < 3) {
                    value = value * 10 + bytes[at] - '0';
                }
                digits++;
            }
            kind = stands && digits <= 3 ? NUMBER : NEVER;
        }

        private static boolean isLetter(int b) {
            return b >= 'a' && b <= 'z';
        }

        private static boolean isDigit(int b) {
            return b >= '0' && b <= '9';
        }

        boolean isAtEnd() {
            return kind == AT_END;
        }

        boolean isWord(int word) {
            return kind == WORD && value == word;
        }

        boolean isSign(int sign) {
            return kind == SIGN && value == sign;
        }

        boolean isNumber() {
            return kind == NUMBER;
        }

        boolean isName() {
            if (kind != WORD) {
                return false;
            }
            for (int i = 0; i < OWN_WORDS.length; i++) {
                if (OWN_WORDS[i] == value) {
                    return false;
                }
            }
            return true;
        }

        boolean passWord(int word) {
            if (!isWord(word)) {
                return fail(FAULT_TEXT);
            }
            advance();
            return true;
        }

        boolean passSign(int sign) {
            if (!isSign(sign)) {
                return fail(FAULT_TEXT);
            }
            advance();
            return true;
        }
    }

    /** THE GRAMMAR: its LINES, its SORTS, and the LEAST of each SORT. */
    private static final class Grammar {
        private int lines;
        private int sorts;
        private final int[] names = new int[MAX_LINES];
        private final boolean[] isForm = new boolean[MAX_LINES];
        private final int[] sortOf = new int[MAX_LINES];
        private final int[] behind = new int[MAX_LINES];
        private final boolean[] hasStar = new boolean[MAX_LINES];
        private final int[] sortsBehind = new int[MAX_LINES * MAX_BEHIND];
        private final int[] sortNames = new int[MAX_SORTS];
        private final int[] leastSize = new int[MAX_SORTS];
        private final int[] leastLine = new int[MAX_SORTS];

        void clear() {
            lines = 0;
            sorts = 0;
        }

        void copyFrom(Grammar other) {
            lines = other.lines;
            sorts = other.sorts;
            System.arraycopy(other.names, 0, names, 0, MAX_LINES);
            System.arraycopy(other.sortOf, 0, sortOf, 0, MAX_LINES);
            System.arraycopy(other.behind, 0, behind, 0, MAX_LINES);
            System.arraycopy(other.sortsBehind, 0, sortsBehind, 0, MAX_LINES * MAX_BEHIND);
            System.arraycopy(other.sortNames, 0, sortNames, 0, MAX_SORTS);
            System.arraycopy(other.leastSize, 0, leastSize, 0, MAX_SORTS);
            System.arraycopy(other.leastLine, 0, leastLine, 0, MAX_SORTS);
            for (int i = 0; i < MAX_LINES; i++) {
                isForm[i] = other.isForm[i];
                hasStar[i] = other.hasStar[i];
            }
        }

        int findLine(int name) {
            for (int i = 0; i < lines; i++) {
                if (names[i] == name) {
                    return i;
                }
            }
            return NONE;
        }

        int findSort(int name) {
            for (int i = 0; i < sorts; i++) {
                if (sortNames[i] == name) {
                    return i;
                }
            }
            return NONE;
        }

        void addSort(int name) {
            if (sorts < MAX_SORTS) {
                sortNames[sorts] = name;
                sorts++;
            }
        }

        void addLine(int name, int sort, boolean form) {
            if (lines < MAX_LINES) {
                names[lines] = name;
                sortOf[lines] = sort;
                isForm[lines] = form;
                behind[lines] = 0;
                hasStar[lines] = false;
                lines++;
            }
        }

        /** One SORT more behind the : of the latest LINE. */
        void addBehind(int sort) {
            int line = lines - 1;
            if (line >= 0 && behind[line] < MAX_BEHIND) {
                sortsBehind[line * MAX_BEHIND + behind[line]] = sort;
                behind[line]++;
            }
        }

        int sortBehind(int line, int i) {
            return sortsBehind[line * MAX_BEHIND + i];
        }

        /** How many PARTS a NODE of the LINE has at least. */
        int needed(int line) {
            return hasStar[line] ? behind[line] - 1 : behind[line];
        }

        /** The SORT of which a NODE's PART i has to be; NONE, if it can't have so many. */
        int sortOfPart(int line, int i) {
            if (i < needed(line)) {
                return sortBehind(line, i);
            }
            return hasStar[line] ? sortBehind(line, behind[line] - 1) : NONE;
        }

        /** Finds LEAST of each SORT; false, if a SORT has no TREE. */
        boolean findLeast() {
            for (int i = 0; i < sorts; i++) {
                leastSize[i] = 0;
                leastLine[i] = NONE;
            }
            // A LEAST has no SORT twice on one way down, so that many rounds find them all.
            for (int round = 0; round < MAX_SORTS; round++) {
                for (int line = 0; line < lines; line++) {
                    betterLeast(line);
                }
            }
            for (int i = 0; i < sorts; i++) {
                if (leastSize[i] == 0) {
                    return false;
                }
            }
            return true;
        }

        private void betterLeast(int line) {
            int size = 1;
            for (int i = 0; i < needed(line); i++) {
                int part = leastSize[sortBehind(line, i)];
                if (part == 0) {
                    return;
                }
                size += part;
            }
            int sort = sortOf[line];
            int known = leastSize[sort];
            if (known == 0 || size < known || (size == known && line < leastLine[sort])) {
                leastSize[sort] = size;
                leastLine[sort] = line;
            }
        }

        /** The NAME of the k-th NODE of a SORT's LEAST: down, each time into the PART that has it. */
        int leastName(int sort, int k) {
            int line = leastLine[sort];
            int left = k;
            for (int depth = 0; depth < MAX_SORTS && left > 0; depth++) {
                left--;
                int into = NONE;
                for (int i = 0; i < needed(line) && into == NONE; i++) {
                    int part = sortBehind(line, i);
                    if (left < leastSize[part]) {
                        into = leastLine[part];
                    } else {
                        left -= leastSize[part];
                    }
                }
                if (into == NONE) {
                    return NONE;
                }
                line = into;
            }
            return line;
        }
    }

    /** Reads the tape as a GRAMMAR. */
    private static final class GrammarReader {
        static boolean readAll(Text text, Grammar grammar) {
            grammar.clear();
            text.start();
            for (int i = 0; i <= MAX_LINES; i++) {
                if (!readLine(text, grammar)) {
                    return false;
                }
                if (text.isAtEnd()) {
                    break;
                }
            }
            return grammar.findLeast() || text.fail(FAULT_STAND);
        }

        private static boolean readLine(Text text, Grammar grammar) {
            boolean form = text.isWord(Text.FORM);
            if (!form && !text.isWord(Text.LEAF)) {
                return text.fail(FAULT_TEXT);
            }
            if (grammar.lines == MAX_LINES) {
                return text.fail(FAULT_MANY);
            }
            text.advance();
            if (!text.isName()) {
                return text.fail(FAULT_TEXT);
            }
            int name = text.value;
            if (grammar.findLine(name) != NONE) {
                return text.fail(FAULT_NAME);
            }
            text.advance();
            int sort = readSort(text, grammar);
            if (sort == NONE) {
                return false;
            }
            grammar.addLine(name, sort, form);
            if (form && !(text.passSign(':') && readBehind(text, grammar))) {
                return false;
            }
            return text.passSign(';');
        }

        private static int readSort(Text text, Grammar grammar) {
            if (!text.isName()) {
                text.fail(FAULT_TEXT);
                return NONE;
            }
            int sort = grammar.findSort(text.value);
            if (sort == NONE) {
                if (grammar.sorts == MAX_SORTS) {
                    text.fail(FAULT_MANY);
                    return NONE;
                }
                sort = grammar.sorts;
                grammar.addSort(text.value);
            }
            text.advance();
            return sort;
        }

        private static boolean readBehind(Text text, Grammar grammar) {
            int line = grammar.lines - 1;
            for (int i = 0; i <= MAX_BEHIND && !text.isSign(';'); i++) {
                if (i == MAX_BEHIND && text.isName()) {
                    return text.fail(FAULT_MANY);
                }
                int sort = readSort(text, grammar);
                if (sort == NONE) {
                    return false;
                }
                grammar.addBehind(sort);
                if (text.isSign('*')) {
                    grammar.hasStar[line] = true;
                    text.advance();
                    return true;
                }
            }
            return true;
        }
    }

    /** A TREE: of each NODE its NAME and how many PARTS it has; settle() tells the rest from these. */
    private static final class Tree {
        private final Grammar grammar;
        private int nodes;
        private int deepest;
        private final int[] names = new int[MAX_NODES];
        private final int[] parts = new int[MAX_NODES];
        private final int[] parents = new int[MAX_NODES];
        private final int[] places = new int[MAX_NODES];
        private final int[] levels = new int[MAX_NODES];
        private final int[] sizes = new int[MAX_NODES];
        private final int[] filled = new int[MAX_NODES];

        Tree(Grammar grammar) {
            this.grammar = grammar;
        }

        void clear() {
            nodes = 0;
        }

        void copyFrom(Tree other) {
            clear();
            addAll(other, 0, other.nodes);
            settle();
        }

        void addNode(int name, int partsOfIt) {
            if (nodes < MAX_NODES) {
                names[nodes] = name;
                parts[nodes] = partsOfIt;
                nodes++;
            }
        }

        private void addAll(Tree other, int from, int to) {
            for (int i = from; i < to; i++) {
                addNode(other.names[i], other.parts[i]);
            }
        }

        private void addLeast(int sort) {
            for (int k = 0; k < grammar.leastSize[sort]; k++) {
                int name = grammar.leastName(sort, k);
                addNode(name, grammar.needed(name));
            }
        }

        void settle() {
            deepest = 0;
            for (int i = 0; i < nodes; i++) {
                int above = i - 1;
                for (int up = 0; up < i && above >= 0 && filled[above] >= parts[above]; up++) {
                    above = parents[above];
                }
                parents[i] = above;
                places[i] = above < 0 ? NONE : filled[above];
                levels[i] = above < 0 ? 0 : levels[above] + 1;
                if (above >= 0) {
                    filled[above]++;
                }
                filled[i] = 0;
                sizes[i] = 1;
                deepest = Math.max(deepest, levels[i]);
            }
            for (int i = nodes - 1; i > 0; i--) {
                if (parents[i] >= 0) {
                    sizes[parents[i]] += sizes[i];
                }
            }
        }

        int sortAt(int node) {
            return grammar.sortOf[names[node]];
        }

        /** Whether the NODE stands for a *. */
        boolean canCut(int node) {
            int above = parents[node];
            return above >= 0 && places[node] >= grammar.needed(names[above]);
        }

        boolean canBeLeast(int node) {
            return grammar.leastSize[sortAt(node)] < sizes[node];
        }

        boolean isInRow(int node, int level) {
            return levels[node] == level && (canCut(node) || canBeLeast(node));
        }

        int countOf(int what, int a, int b) {
            if (what == COUNT_SIZE) {
                return nodes;
            }
            if (what == COUNT_DEEP) {
                return deepest;
            }
            int many = 0;
            int below = 0;
            for (int i = 0; i < nodes; i++) {
                if (what == COUNT_HAS && names[i] == a) {
                    many++;
                } else if (what == COUNT_UNDER) {
                    if (i < below && names[i] == b) {
                        many++;
                    }
                    if (names[i] == a) {
                        below = Math.max(below, i + sizes[i]);
                    }
                } else if (what == COUNT_NEXT && names[i] == a) {
                    int behind = i + sizes[i];
                    if (behind < nodes && parents[behind] == parents[i] && names[behind] == b) {
                        many++;
                    }
                }
            }
            return many;
        }

        /** Becomes the source with one SINGLE change. */
        void becomeSingle(Tree source, int kind, int node, int other) {
            clear();
            addAll(source, 0, node);
            if (kind == CUT) {
                int above = source.parents[node];
                if (above >= 0) {
                    parts[above]--;
                }
            } else if (kind == LEAST) {
                addLeast(source.sortAt(node));
            } else {
                addAll(source, other, other + source.sizes[other]);
            }
            addAll(source, node + source.sizes[node], source.nodes);
            settle();
        }

        /** Becomes the source with NODES of a ROW changed; moved tells where those that stay are. */
        void becomeChanged(Tree source, boolean[] changed, int[] moved) {
            clear();
            int i = 0;
            while (i < source.nodes) {
                if (!changed[i]) {
                    moved[i] = nodes;
                    addNode(source.names[i], source.parts[i]);
                    i++;
                } else {
                    if (!source.canCut(i)) {
                        addLeast(source.sortAt(i));
                    } else {
                        parts[moved[source.parents[i]]]--;
                    }
                    i += Math.max(1, source.sizes[i]);
                }
            }
            settle();
        }
    }

    /** Reads the tape as an INPUT. */
    private static final class InputReader {
        private final Text text;
        private final Grammar grammar;
        private final Tree tree;
        private final int[] open = new int[MAX_OPEN];
        private int depth;

        InputReader(Text text, Grammar grammar, Tree tree) {
            this.text = text;
            this.grammar = grammar;
            this.tree = tree;
        }

        boolean readAll() {
            depth = 0;
            tree.clear();
            text.start();
            for (int i = 0; i < MAX_BYTES; i++) {
                boolean good = depth > 0 && text.isSign(')') ? readClosed() : readNode();
                if (!good) {
                    return false;
                }
                if (depth == 0) {
                    break;
                }
            }
            return text.isAtEnd() || text.fail(FAULT_TEXT);
        }

        private boolean readClosed() {
            int node = open[depth - 1];
            if (tree.parts[node] < grammar.needed(tree.names[node])) {
                return text.fail(FAULT_STAND);
            }
            depth--;
            text.advance();
            return true;
        }

        private boolean readNode() {
            boolean form = text.isSign('(');
            if (form) {
                if (depth == MAX_OPEN || tree.nodes == MAX_NODES) {
                    return text.fail(FAULT_MANY);
                }
                text.advance();
            }
            if (!readName(form)) {
                return false;
            }
            if (form) {
                open[depth] = tree.nodes - 1;
                depth++;
            }
            return true;
        }

        private boolean readName(boolean form) {
            if (!text.isName()) {
                return text.fail(FAULT_TEXT);
            }
            int line = grammar.findLine(text.value);
            if (line == NONE) {
                return text.fail(FAULT_NAME);
            }
            if (tree.nodes == MAX_NODES) {
                return text.fail(FAULT_MANY);
            }
            int above = depth > 0 ? open[depth - 1] : NONE;
            // The START is SORT 0: SORTS are numbered as they stand first.
            int due = above == NONE ? 0 : grammar.sortOfPart(tree.names[above], tree.parts[above]);
            if (grammar.isForm[line] != form || grammar.sortOf[line] != due) {
                return text.fail(FAULT_STAND);
            }
            if (above != NONE) {
                tree.parts[above]++;
            }
            tree.addNode(line, 0);
            text.advance();
            return true;
        }
    }

    /** THE BUGS; their TESTS one behind the other as steps, each FACT ahead of what joins it. */
    private static final class Bugs {
        // A FACT's step is 3 times its COUNT and its sign: 0 <, 1 >, 2 =.
        private static final int LESS = 0;
        private static final int GREATER = 1;
        private static final int EQUAL = 2;
        private static final int SIGNS = 3;
        private static final int STEP_NOT = 15;
        private static final int STEP_AND = 16;
        private static final int STEP_OR = 17;
        private static final int STEP_BUG = 18;

        private int many;
        private final int[] names = new int[MAX_BUGS];
        private final int[] odds = new int[MAX_BUGS];
        private int length;
        private final int[] steps = new int[MAX_STEPS];
        private final int[] firsts = new int[MAX_STEPS];
        private final int[] seconds = new int[MAX_STEPS];
        private final int[] numbers = new int[MAX_STEPS];

        void clear() {
            many = 0;
            length = 0;
        }

        void copyFrom(Bugs other) {
            many = other.many;
            length = other.length;
            System.arraycopy(other.names, 0, names, 0, MAX_BUGS);
            System.arraycopy(other.odds, 0, odds, 0, MAX_BUGS);
            System.arraycopy(other.steps, 0, steps, 0, length);
            System.arraycopy(other.firsts, 0, firsts, 0, length);
            System.arraycopy(other.seconds, 0, seconds, 0, length);
            System.arraycopy(other.numbers, 0, numbers, 0, length);
        }

        boolean isTold(int name) {
            for (int i = 0; i < many; i++) {
                if (names[i] == name) {
                    return true;
                }
            }
            return false;
        }

        void addBug(int name, int oddsOfIt) {
            if (many < MAX_BUGS) {
                names[many] = name;
                odds[many] = oddsOfIt;
                many++;
            }
        }

        void addFact(int step, int first, int second, int number) {
            if (length < MAX_STEPS) {
                steps[length] = step;
                firsts[length] = first;
                seconds[length] = second;
                numbers[length] = number;
                length++;
            }
        }

        void addStep(int step) {
            addFact(step, NONE, NONE, 0);
        }

        /** BUGS whose TESTS hold for the TREE, as bits. */
        int bitsFor(Tree tree) {
            int bits = 0;
            int bug = 0;
            // What the steps so far hold, the latest lowest: nests are few, so that 32 bits do.
            int held = 0;
            for (int i = 0; i < length && bug < MAX_BUGS; i++) {
                int top = held & 1;
                switch (steps[i]) {
                    case STEP_NOT:
                        held ^= 1;
                        break;
                    case STEP_AND:
                        held = top == 1 ? held >> 1 : held >> 1 & -2;
                        break;
                    case STEP_OR:
                        held = held >> 1 | top;
                        break;
                    case STEP_BUG:
                        bits |= top << bug;
                        bug++;
                        held = 0;
                        break;
                    default:
                        int counted = tree.countOf(steps[i] / SIGNS, firsts[i], seconds[i]);
                        held = held << 1 | (compares(counted, steps[i] % SIGNS, numbers[i]) ? 1 : 0);
                        break;
                }
            }
            return bits;
        }

        private static boolean compares(int counted, int sign, int number) {
            if (sign == LESS) {
                return counted < number;
            }
            return sign == GREATER ? counted > number : counted == number;
        }
    }

    /** Reads the tape as BUGS. */
    private static final class BugsReader {
        /** Of one nest at most an or, an and, the [ or not itself wait. */
        private static final int MAX_WAITING = 3 * (MAX_NESTED + 1);
        private static final int BRACKET = 0;

        private final Text text;
        private final Grammar grammar;
        private final Bugs bugs;
        private final int[] waiting = new int[MAX_WAITING];
        private int waits;
        private int nested;

        BugsReader(Text text, Grammar grammar, Bugs bugs) {
            this.text = text;
            this.grammar = grammar;
            this.bugs = bugs;
        }

        boolean readAll() {
            bugs.clear();
            text.start();
            for (int i = 0; i <= MAX_BUGS && !text.isAtEnd(); i++) {
                if (!readHead() || !readTest()) {
                    return false;
                }
            }
            return true;
        }

        /** Reads a bug as far as its TEST. */
        private boolean readHead() {
            if (!text.isWord(Text.BUG)) {
                return text.fail(FAULT_TEXT);
            }
            if (bugs.many == MAX_BUGS) {
                return text.fail(FAULT_MANY);
            }
            text.advance();
            if (!text.isName()) {
                return text.fail(FAULT_TEXT);
            }
            int name = text.value;
            if (bugs.isTold(name)) {
                return text.fail(FAULT_NAME);
            }
            text.advance();
            if (!text.passWord(Text.ODDS)) {
                return false;
            }
            if (!text.isNumber()) {
                return text.fail(FAULT_TEXT);
            }
            int odds = text.value;
            if (odds < 1 || odds > 100) {
                return text.fail(FAULT_ODDS);
            }
            text.advance();
            bugs.addBug(name, odds);
            return text.passWord(Text.WHEN);
        }

        /** Reads a TEST with its ; and writes its steps; what can't be written yet waits. */
        private boolean readTest() {
            waits = 0;
            nested = 0;
            for (int i = 0; i < MAX_BYTES; i++) {
                if (!readAhead() || !readFact()) {
                    return false;
                }
                writeNots();
                if (!readClosed()) {
                    return false;
                }
                if (text.isWord(Text.AND)) {
                    writeJoins(Bugs.STEP_AND);
                    holdBack(Bugs.STEP_AND);
                } else if (text.isWord(Text.OR)) {
                    writeJoins(Bugs.STEP_OR);
                    holdBack(Bugs.STEP_OR);
                } else {
                    writeJoins(Bugs.STEP_OR);
                    return endTest();
                }
                text.advance();
            }
            return text.fail(FAULT_TEXT);
        }

        private boolean endTest() {
            if (waits > 0) {
                return text.fail(FAULT_TEXT);
            }
            bugs.addStep(Bugs.STEP_BUG);
            return text.passSign(';');
        }

        private void holdBack(int step) {
            if (waits < MAX_WAITING) {
                waiting[waits] = step;
                waits++;
            }
        }

        /** Reads each [ and not ahead of a COUNT. */
        private boolean readAhead() {
            for (int i = 0; i <= MAX_NESTED; i++) {
                boolean not = text.isWord(Text.NOT);
                if (!not && !text.isSign('[')) {
                    return true;
                }
                if (nested == MAX_NESTED) {
                    return text.fail(FAULT_MANY);
                }
                holdBack(not ? Bugs.STEP_NOT : BRACKET);
                nested++;
                text.advance();
            }
            return true;
        }

        /** Reads each ] behind a FACT. */
        private boolean readClosed() {
            for (int i = 0; i < MAX_BYTES && text.isSign(']'); i++) {
                writeJoins(Bugs.STEP_OR);
                if (waits == 0) {
                    return text.fail(FAULT_TEXT);
                }
                waits--;
                nested--;
                text.advance();
                writeNots();
            }
            return true;
        }

        /** A FACT has ended: so have those of the nots ahead of it. */
        private void writeNots() {
            while (waits > 0 && waiting[waits - 1] == Bugs.STEP_NOT) {
                waits--;
                nested--;
                bugs.addStep(Bugs.STEP_NOT);
            }
        }

        /** Writes the and that waits, and with upTo STEP_OR the or, too. */
        private void writeJoins(int upTo) {
            while (waits > 0 && waiting[waits - 1] >= Bugs.STEP_AND && waiting[waits - 1] <= upTo) {
                waits--;
                bugs.addStep(waiting[waits]);
            }
        }

        private boolean readFact() {
            int count = countTold();
            if (count == NONE) {
                return text.fail(FAULT_TEXT);
            }
            text.advance();
            int first = NONE;
            int second = NONE;
            if (count >= COUNT_HAS) {
                first = readName();
                if (first == NONE) {
                    return false;
                }
            }
            if (count >= COUNT_UNDER) {
                second = readName();
                if (second == NONE) {
                    return false;
                }
            }
            int sign = signTold();
            if (sign == NONE) {
                return text.fail(FAULT_TEXT);
            }
            text.advance();
            if (!text.isNumber()) {
                return text.fail(FAULT_TEXT);
            }
            bugs.addFact(count * Bugs.SIGNS + sign, first, second, text.value);
            text.advance();
            return true;
        }

        private int countTold() {
            if (text.isWord(Text.SIZE)) {
                return COUNT_SIZE;
            }
            if (text.isWord(Text.DEEP)) {
                return COUNT_DEEP;
            }
            if (text.isWord(Text.HAS)) {
                return COUNT_HAS;
            }
            if (text.isWord(Text.UNDER)) {
                return COUNT_UNDER;
            }
            return text.isWord(Text.NEXT) ? COUNT_NEXT : NONE;
        }

        private int signTold() {
            if (text.isSign('<')) {
                return Bugs.LESS;
            }
            if (text.isSign('>')) {
                return Bugs.GREATER;
            }
            return text.isSign('=') ? Bugs.EQUAL : NONE;
        }

        /** Reads a NAME of the GRAMMAR: its LINE; NONE with a FAULT. */
        private int readName() {
            if (!text.isName()) {
                text.fail(FAULT_TEXT);
                return NONE;
            }
            int line = grammar.findLine(text.value);
            if (line == NONE) {
                text.fail(FAULT_NAME);
                return NONE;
            }
            text.advance();
            return line;
        }
    }

    /** TREES that were TRIED, as they came; each as a row of numbers, found again by a sum of them. */
    private static final class Tried {
        private static final int BUCKETS = 1024;
        /** A NODE takes twelve bits: a NAME below 32, fewer than 128 PARTS. */
        private static final int NODES_A_NUMBER = 5;
        private static final int KEY = MAX_NODES / NODES_A_NUMBER;

        private int many;
        private final int[] sizes = new int[MAX_TRIED];
        private final int[] verdicts = new int[MAX_TRIED];
        private final int[] reasons = new int[MAX_TRIED];
        private final int[] wheres = new int[MAX_TRIED];
        private final long[] keys = new long[MAX_TRIED * KEY];
        private final int[] earlier = new int[MAX_TRIED];
        private final int[] latest = new int[BUCKETS];
        private final long[] key = new long[KEY];
        private int bucket;

        Tried() {
            Arrays.fill(latest, NONE);
        }

        void forget() {
            many = 0;
            Arrays.fill(latest, NONE);
        }

        /** Which one the TREE is; NONE, if it was not TRIED: then add() can put it there. */
        int find(Tree tree) {
            makeKey(tree);
            int at = latest[bucket];
            for (int i = 0; i < MAX_TRIED && at != NONE; i++) {
                if (sizes[at] == tree.nodes && hasKey(at)) {
                    return at;
                }
                at = earlier[at];
            }
            return NONE;
        }

        /** The TREE that was not found is TRIED. */
        void add(int size, int verdict, int reason, int where) {
            if (many >= MAX_TRIED) {
                return;
            }
            sizes[many] = size;
            verdicts[many] = verdict;
            reasons[many] = reason;
            wheres[many] = where;
            System.arraycopy(key, 0, keys, many * KEY, KEY);
            earlier[many] = latest[bucket];
            latest[bucket] = many;
            many++;
        }

        private void makeKey(Tree tree) {
            Arrays.fill(key, 0L);
            long sum = tree.nodes;
            for (int i = 0; i < tree.nodes; i++) {
                int code = tree.names[i] << 7 | tree.parts[i];
                key[i / NODES_A_NUMBER] = key[i / NODES_A_NUMBER] << 12 | code;
                sum = sum * 31 + code;
            }
            bucket = (int) (sum ^ sum >>> 16) & BUCKETS - 1;
        }

        private boolean hasKey(int at) {
            for (int i = 0; i < KEY; i++) {
                if (keys[at * KEY + i] != key[i]) {
                    return false;
                }
            }
            return true;
        }
    }

    /** RUNS and VERDICTS. */
    private static final class Judge {
        private final Bugs bugs;
        private final Tried tried;
        private final int[] told = new int[MAX_BUGS + 1];
        private int votes = 1;
        private int seed = 1;
        private int again;
        private int runs;
        private int out;

        Judge(Bugs bugs, Tried tried) {
            this.bugs = bugs;
            this.tried = tried;
        }

        /** The VERDICT of a TREE; it is TRIED for that reason, if it was not. */
        int ask(Tree tree, int reason, int where) {
            int known = tried.find(tree);
            if (known != NONE) {
                again++;
                return tried.verdicts[known];
            }
            if (tried.many == MAX_TRIED) {
                out++;
                return NONE;
            }
            int verdict = vote(bugs.bitsFor(tree));
            tried.add(tree.nodes, verdict, reason, where);
            return verdict;
        }

        private int vote(int bits) {
            // NONE has the place behind all bugs: like ones go to the least.
            int none = bugs.many;
            Arrays.fill(told, 0);
            for (int i = 0; i < votes; i++) {
                int bug = runOnce(bits);
                told[bug == NONE ? none : bug]++;
            }
            runs += votes;
            int most = 0;
            for (int i = 1; i <= none; i++) {
                if (told[i] > told[most]) {
                    most = i;
                }
            }
            return most == none ? NONE : most;
        }

        /** What a RUN tells of a TREE for which these BUGS hold. */
        int runOnce(int bits) {
            for (int bug = 0; bug < bugs.many; bug++) {
                if ((bits >> bug & 1) == 0) {
                    continue;
                }
                if (bugs.odds[bug] == 100) {
                    return bug;
                }
                seed = 1103515245 * seed + 12345 & 0x7fffffff;
                if (seed / 64 % 100 < bugs.odds[bug]) {
                    return bug;
                }
            }
            return NONE;
        }
    }

    /** One SINGLE change of the INPUT, and the way on to the next one. */
    private static final class Single {
        private final Tree tree;
        private int node;
        private int kind;
        private int other;

        Single(Tree tree) {
            this.tree = tree;
        }

        /** To ahead of the first one. */
        void start() {
            atNode(0);
        }

        private void atNode(int which) {
            node = which;
            kind = NONE;
            other = which;
        }

        /** On to the next one; false, if there is none. */
        boolean step() {
            for (; node < tree.nodes; atNode(node + 1)) {
                if (kind < CUT) {
                    kind = CUT;
                    if (tree.canCut(node)) {
                        return true;
                    }
                }
                if (kind < LEAST) {
                    kind = LEAST;
                    if (tree.canBeLeast(node)) {
                        return true;
                    }
                }
                kind = HOIST;
                for (other++; other < node + tree.sizes[node]; other++) {
                    if (tree.sortAt(other) == tree.sortAt(node)) {
                        return true;
                    }
                }
            }
            return false;
        }

        boolean goTo(int k) {
            if (k < 0) {
                return false;
            }
            start();
            for (int i = 0; i < ENOUGH_TURNS && step(); i++) {
                if (i == k) {
                    return true;
                }
            }
            return false;
        }

        int howMany() {
            start();
            int many = 0;
            while (many < ENOUGH_TURNS && step()) {
                many++;
            }
            return many;
        }
    }

    /** Makes the INPUT smaller as long as it fails the same way. */
    private static final class Reducer {
        private final Tree tree;
        private final Tree made;
        private final Judge judge;
        private int bug;
        private int taken;
        private final int[] row = new int[MAX_NODES];
        private int rowSize;
        private final boolean[] changed = new boolean[MAX_NODES];
        private final int[] moved = new int[MAX_NODES];

        Reducer(Tree tree, Tree made, Judge judge) {
            this.tree = tree;
            this.made = made;
            this.judge = judge;
        }

        /** Where PART i of a ROW of many in n begins. */
        static int partStart(int many, int n, int i) {
            return n < 1 ? 0 : i * many / n;
        }

        void start(int which) {
            bug = which;
            taken = 0;
        }

        void byLevels() {
            for (int level = 1; level < MAX_NODES && level <= tree.deepest; level++) {
                gatherRow(level);
                if (rowSize > 0) {
                    reduceRow(level);
                }
            }
        }

        void byHoists() {
            int k = 0;
            for (int turn = 0; turn < ENOUGH_TURNS && k < tree.nodes; turn++) {
                if (!isHoisted(k)) {
                    k++;
                }
            }
        }

        void byCuts() {
            int k = 0;
            for (int turn = 0; turn < ENOUGH_TURNS && k < tree.nodes; turn++) {
                boolean smaller = tree.canCut(k) && isTakenSingle(CUT, k, NONE, FOR_CUT);
                if (!smaller) {
                    smaller = tree.canBeLeast(k) && isTakenSingle(LEAST, k, NONE, FOR_CUT);
                }
                if (!smaller) {
                    k++;
                }
            }
        }

        private boolean isHoisted(int k) {
            for (int j = k + 1; j < k + tree.sizes[k]; j++) {
                if (tree.sortAt(j) == tree.sortAt(k) && isTakenSingle(HOIST, k, j, FOR_HOIST)) {
                    return true;
                }
            }
            return false;
        }

        private boolean isTakenSingle(int kind, int k, int j, int reason) {
            made.becomeSingle(tree, kind, k, j);
            return isTaken(reason, k);
        }

        private boolean isTaken(int reason, int where) {
            if (judge.ask(made, reason, where) != bug) {
                return false;
            }
            tree.copyFrom(made);
            taken++;
            return true;
        }

        private void gatherRow(int level) {
            rowSize = 0;
            for (int i = 0; i < tree.nodes; i++) {
                if (tree.isInRow(i, level)) {
                    row[rowSize] = i;
                    rowSize++;
                }
            }
        }

        private void reduceRow(int level) {
            if (isPartTaken(1, true, FOR_WHOLE_ROW, level)) {
                return;
            }
            int n = 2;
            for (int turn = 0; turn < ENOUGH_TURNS && rowSize >= 2; turn++) {
                if (isPartTaken(n, false, FOR_PART_KEPT, level)) {
                    n = 2;
                } else if (n > 2 && isPartTaken(n, true, FOR_PART_GONE, level)) {
                    n--;
                } else if (n < rowSize) {
                    n = Math.min(2 * n, rowSize);
                } else {
                    return;
                }
            }
        }

        /** PART by PART of n the TREE with it changed, or with all others: taken, ROW is what stays. */
        private boolean isPartTaken(int n, boolean inside, int reason, int level) {
            for (int i = 0; i < n; i++) {
                markRow(partStart(rowSize, n, i), partStart(rowSize, n, i + 1), inside);
                made.becomeChanged(tree, changed, moved);
                if (isTaken(reason, level)) {
                    keepUnchanged();
                    return true;
                }
            }
            return false;
        }

        private void markRow(int from, int to, boolean inside) {
            for (int i = 0; i < MAX_NODES; i++) {
                changed[i] = false;
            }
            for (int i = 0; i < rowSize; i++) {
                changed[row[i]] = (i >= from && i < to) == inside;
            }
        }

        private void keepUnchanged() {
            int kept = 0;
            for (int i = 0; i < rowSize; i++) {
                if (!changed[row[i]]) {
                    row[kept] = moved[row[i]];
                    kept++;
                }
            }
            rowSize = kept;
        }
    }
}
