import java.util.Arrays;

/** Models written as texts: read to rows of whole factors, printed, and tried at points. */
public final class ProblemTexts {
    public static final int NONE = -1, UNKNOWN = -100001, OUTSIDE = -100002, STATE = -100003, SIZE = -100004;

    private static final int MOST_BYTES = 400, MOST_FED = 8, MOST_LETTERS = 4, MOST_DIGITS = 4;
    private static final int MOST_SETS = 6, MOST_TABLES = 6, MOST_VARS = 6, MOST_RULES = 10;
    private static final int MOST_NUMBERS = 8, MOST_DEPTH = 8, MOST_INDICES = 2 + 2 * MOST_DEPTH;
    private static final int MOST_COLUMNS = 40, MOST_ROWS = 40, MOST_WORK = 20000;
    /** A NAME and its colon, 40 times " - 9223372036854775808*abcd[9999,9999]", REL and RIGHT. */
    private static final int MOST_PRINTED = 6 + 38 * MOST_COLUMNS + 25;
    /** The digits of 9223372036854775808. */
    private static final int MOST_SIZE = 19;
    /** Far above MOST_WORK, and so low that no product or sum of such runs over. */
    private static final long MANY_TIMES = 1000000000L;
    private static final int FIRST_FAULT = -10;

    /** What the things with a NAME are; the first four as the call name() numbers them. */
    private static final int SETS = 0, TABLES = 1, VARS = 2, RULES = 3, INDICES = 4;

    /** Kinds of TOKENS; a SIGN of one byte is its own kind, a WORD's kind is its packed letters. */
    private static final int END = 1, BAD = 2, NAME = 3, NUMBER = 4, AT_MOST = 5, AT_LEAST = 6, DOTS = 7;
    private static final String SIGNS = "=+-*()[],;:";
    private static final int SET = 's' << 16 | 'e' << 8 | 't';
    private static final int DATA = 'd' << 24 | 'a' << 16 | 't' << 8 | 'a';
    private static final int VAR = 'v' << 16 | 'a' << 8 | 'r';
    private static final int RULE = 'r' << 24 | 'u' << 16 | 'l' << 8 | 'e';
    private static final int GOAL = 'g' << 24 | 'o' << 16 | 'a' << 8 | 'l';
    private static final int MIN = 'm' << 16 | 'i' << 8 | 'n';
    private static final int MAX = 'm' << 16 | 'a' << 8 | 'x';
    private static final int SUM = 's' << 16 | 'u' << 8 | 'm';
    private static final int IN = 'i' << 8 | 'n';
    private static final int FOR = 'f' << 16 | 'o' << 8 | 'r';
    private static final int[] WORDS = {SET, DATA, VAR, RULE, GOAL, MIN, MAX, SUM, IN, FOR};

    /** Kinds of FACTORS: ( SUM ) is the INNER one without indices. */
    private static final int OF_NUMBER = 0, OF_INDEX = 1, OF_TABLE = 2, OF_VAR = 3, INNER = 4;
    /** What no PLACE is: a NUMBER is held as itself, the index in slot s as ~s. */
    private static final int NO_PLACE = -1000;

    private final Bytes text;
    private final Bytes paper;
    private final Tokens tokens;
    private final Reader reader;
    private final Model model;
    private Declared declared;
    /** Texts are read into this one, so that the model stays until a text is seen to be right. */
    private Declared spare;

    public ProblemTexts() {
        text = new Bytes(MOST_BYTES);
        paper = new Bytes(MOST_PRINTED);
        tokens = new Tokens();
        declared = new Declared();
        spare = new Declared();
        reader = new Reader(tokens, spare);
        model = new Model(declared);
    }

    public int feed(int n, long w) {
        if (n < 1 || n > MOST_FED) {
            return OUTSIDE;
        }
        if (text.length + n > MOST_BYTES) {
            return SIZE;
        }
        for (int i = n - 1; i >= 0; i--) {
            text.add((int) (w >>> 8 * i) & 255);
        }
        return text.length;
    }

    public int cut(int n) {
        if (n < 0 || n > text.length) {
            return OUTSIDE;
        }
        int gone = text.length - n;
        text.length = n;
        return gone;
    }

    public int read() {
        tokens.scan(text);
        text.length = 0;
        if (!reader.readText(spare)) {
            return tokens.fault;
        }
        if (spare.isTooLarge()) {
            return SIZE;
        }
        Declared old = declared;
        declared = spare;
        spare = old;
        model.make(declared);
        return declared.rules.total;
    }

    // ---- the model

    public int name(int sort, int k, int i) {
        if (sort < SETS || sort > RULES) {
            return UNKNOWN;
        }
        int letter = declared.names.letter(declared.names.nameOf(sort, k), i);
        return letter == NONE ? UNKNOWN : letter;
    }

    public int set(int k, int what) {
        if (k < 0 || k >= declared.sets.size) {
            return UNKNOWN;
        }
        switch (what) {
            case 0:
                return declared.sets.sizes[k];
            case 1:
                return declared.sets.firsts[k];
            default:
                return UNKNOWN;
        }
    }

    public int data(int k, int i, int j) {
        int spot = declared.tables.spot(k, i, j);
        return spot == NONE ? UNKNOWN : declared.valueAt(spot);
    }

    public int column(int k, int i, int j) {
        int spot = declared.vars.spot(k, i, j);
        return spot == NONE ? UNKNOWN : spot;
    }

    public int about(int column, int what) {
        int k = declared.vars.owner(column);
        if (k == NONE) {
            return UNKNOWN;
        }
        switch (what) {
            case 0:
                return k;
            case 1:
                return declared.vars.firstNumber(column);
            case 2:
                return declared.vars.secondNumber(column);
            case 3:
                return declared.lows[k];
            case 4:
                return declared.highs[k];
            case 5:
                return model.point[column];
            default:
                return UNKNOWN;
        }
    }

    public int row(int row, int what) {
        int k = declared.rules.owner(row);
        if (k == NONE) {
            return UNKNOWN;
        }
        switch (what) {
            case 0:
                return k;
            case 1:
                return declared.rules.firstNumber(row);
            case 2:
                return declared.rules.secondNumber(row);
            case 3:
                return declared.relations[k];
            default:
                return UNKNOWN;
        }
    }

    public long factor(int row, int column) {
        return isRow(row) && isColumn(column) ? model.factors[row][column] : UNKNOWN;
    }

    public long right(int row) {
        return isRow(row) ? model.rights[row] : UNKNOWN;
    }

    public long price(int column) {
        if (column != NONE && !isColumn(column)) {
            return UNKNOWN;
        }
        if (declared.goal == 0) {
            return STATE;
        }
        return column == NONE ? model.priceWithout : model.prices[column];
    }

    public int count(int what) {
        switch (what) {
            case 0:
                return declared.sets.size;
            case 1:
                return declared.tables.size;
            case 2:
                return declared.vars.size;
            case 3:
                return declared.rules.size;
            case 4:
                return declared.vars.total;
            case 5:
                return declared.rules.total;
            case 6:
                return (int) declared.work;
            case 7:
                return declared.goal;
            case 8:
                return text.length;
            case 9:
                return paper.length;
            default:
                return UNKNOWN;
        }
    }

    // ---- points, prints

    public int put(int column, int v) {
        int k = declared.vars.owner(column);
        if (k == NONE) {
            return UNKNOWN;
        }
        if (v < declared.lows[k] || v > declared.highs[k]) {
            return OUTSIDE;
        }
        int old = model.point[column];
        model.point[column] = v;
        return old;
    }

    public long left(int row) {
        return isRow(row) ? model.atPoint(model.factors[row]) : UNKNOWN;
    }

    public int holds(int row) {
        if (!isRow(row)) {
            return UNKNOWN;
        }
        return isKept(row) ? 1 : 0;
    }

    public int broken(int i) {
        if (i < 0) {
            return UNKNOWN;
        }
        int ahead = 0;
        for (int row = 0; row < declared.rules.total; row++) {
            if (!isKept(row)) {
                if (ahead == i) {
                    return row;
                }
                ahead++;
            }
        }
        return NONE;
    }

    public long worth() {
        return declared.goal == 0 ? STATE : model.atPoint(model.prices) + model.priceWithout;
    }

    public int print(int row) {
        int rule = declared.rules.owner(row);
        if (rule == NONE) {
            return UNKNOWN;
        }
        paper.length = 0;
        paper.addName(declared.names.nameOf(RULES, rule));
        paper.addText(": ");
        boolean first = true;
        for (int column = 0; column < declared.vars.total; column++) {
            if (model.factors[row][column] != 0) {
                printTerm(model.factors[row][column], column, first);
                first = false;
            }
        }
        if (first) {
            paper.add('0');
        }
        int relation = declared.relations[rule];
        paper.addText(relation < 0 ? " <= " : relation == 0 ? " = " : " >= ");
        printRight(model.rights[row]);
        return paper.length;
    }

    public int out(int i) {
        return paper.at(i);
    }

    private boolean isColumn(int column) {
        return column >= 0 && column < declared.vars.total;
    }

    private boolean isRow(int row) {
        return row >= 0 && row < declared.rules.total;
    }

    private boolean isKept(int row) {
        int rule = declared.rules.owner(row);
        int relation = rule == NONE ? 0 : declared.relations[rule];
        int compared = Long.compare(model.atPoint(model.factors[row]), model.rights[row]);
        return compared == 0 || relation < 0 && compared < 0 || relation > 0 && compared > 0;
    }

    private void printTerm(long factor, int column, boolean first) {
        if (first) {
            paper.addText(factor < 0 ? "-" : "");
        } else {
            paper.addText(factor < 0 ? " - " : " + ");
        }
        if (factor != 1 && factor != -1) {
            paper.addSize(factor);
            paper.add('*');
        }
        paper.addName(declared.names.nameOf(VARS, declared.vars.owner(column)));
        int one = declared.vars.firstNumber(column);
        int two = declared.vars.secondNumber(column);
        if (one != NONE) {
            paper.add('[');
            paper.addSize(one);
            if (two != NONE) {
                paper.add(',');
                paper.addSize(two);
            }
            paper.add(']');
        }
    }

    private void printRight(long right) {
        if (right < 0) {
            paper.add('-');
        }
        paper.addSize(right);
        paper.add(';');
    }

    /** A row of bytes that grows up to a limit: THE TEXT, and OUT. */
    private static final class Bytes {
        private final byte[] held;
        int length;

        Bytes(int most) {
            held = new byte[Math.max(0, most)];
        }

        int at(int i) {
            return i < 0 || i >= length ? NONE : held[i] & 255;
        }

        void add(int b) {
            if (length < held.length) {
                held[length] = (byte) b;
                length++;
            }
        }

        void addText(String more) {
            for (int i = 0; i < more.length(); i++) {
                add(more.charAt(i));
            }
        }

        void addName(int packed) {
            for (int shift = 8 * (MOST_LETTERS - 1); shift >= 0; shift -= 8) {
                int letter = packed >>> shift & 255;
                if (letter != 0) {
                    add(letter);
                }
            }
        }

        /** Works below 0, since the least long has no counterpart above it. */
        void addSize(long number) {
            long rest = number > 0 ? -number : number;
            int digits = 1;
            for (long more = rest / 10; more != 0 && digits < MOST_SIZE; more /= 10) {
                digits++;
            }
            int end = length + digits;
            if (end > held.length) {
                return;
            }
            for (int i = end - 1; i >= length; i--) {
                held[i] = (byte) ('0' - rest % 10);
                rest /= 10;
            }
            length = end;
        }
    }

    /** The TOKENS of a text with the one that is next, and the FAULT, if there is one. */
    private static final class Tokens {
        private final int[] kinds, places, values;
        private int size, at;
        int fault;

        Tokens() {
            // one more than bytes: the END
            kinds = new int[MOST_BYTES + 1];
            places = new int[MOST_BYTES + 1];
            values = new int[MOST_BYTES + 1];
        }

        void scan(Bytes text) {
            size = 0;
            at = 0;
            fault = 0;
            int width;
            for (int from = 0; from < text.length; from += Math.max(1, width)) {
                int b = text.at(from);
                if (isLetter(b)) {
                    width = scanLetters(text, from);
                } else if (isDigit(b)) {
                    width = scanDigits(text, from);
                } else if (b == ' ' || b == '\n') {
                    width = 1;
                } else {
                    width = scanSign(text, from);
                }
            }
            add(END, text.length, 0);
        }

        private int scanLetters(Bytes text, int from) {
            int packed = 0;
            int to = from;
            while (to < text.length && isLetter(text.at(to))) {
                packed = packed << 8 | text.at(to);
                to++;
            }
            int kind = NAME;
            for (int i = 0; i < WORDS.length; i++) {
                if (WORDS[i] == packed) {
                    kind = packed;
                }
            }
            add(to - from > MOST_LETTERS ? BAD : kind, from, packed);
            return to - from;
        }

        private int scanDigits(Bytes text, int from) {
            int number = 0;
            int to = from;
            while (to < text.length && isDigit(text.at(to))) {
                number = number * 10 + text.at(to) - '0';
                to++;
            }
            add(to - from > MOST_DIGITS ? BAD : NUMBER, from, number);
            return to - from;
        }

        private int scanSign(Bytes text, int from) {
            int b = text.at(from);
            int behind = text.at(from + 1);
            if (b == '<' && behind == '=') {
                add(AT_MOST, from, 0);
                return 2;
            }
            if (b == '>' && behind == '=') {
                add(AT_LEAST, from, 0);
                return 2;
            }
            if (b == '.' && behind == '.') {
                add(DOTS, from, 0);
                return 2;
            }
            add(SIGNS.indexOf((char) b) < 0 ? BAD : b, from, 0);
            return 1;
        }

        private void add(int kind, int place, int value) {
            if (size < kinds.length) {
                kinds[size] = kind;
                places[size] = place;
                values[size] = value;
                size++;
            }
        }

        int kind() {
            return kinds[at];
        }

        int place() {
            return places[at];
        }

        int value() {
            return values[at];
        }

        /** The packed letters of a NAME; of other TOKENS 0, which no thing is named. */
        int named() {
            return kinds[at] == NAME ? values[at] : 0;
        }

        void advance() {
            if (at + 1 < size) {
                at++;
            }
        }

        boolean take(int kind) {
            if (kinds[at] != kind) {
                fault = FIRST_FAULT - places[at];
                return false;
            }
            if (at + 1 < size) {
                at++;
            }
            return true;
        }

        /** Always false, so that a reading method can end with it. */
        boolean refuse() {
            fault = FIRST_FAULT - places[at];
            return false;
        }

        void refuseAt(int place) {
            fault = FIRST_FAULT - place;
        }

        private static boolean isLetter(int b) {
            return b >= 'a' && b <= 'z';
        }

        private static boolean isDigit(int b) {
            return b >= '0' && b <= '9';
        }
    }

    /** All NAMES that are taken; those of the indices around are the last ones. */
    private static final class Names {
        private static final int MOST = MOST_SETS + MOST_TABLES + MOST_VARS + MOST_RULES + MOST_INDICES;
        private final int[] packed = new int[MOST], sorts = new int[MOST], numbers = new int[MOST];
        int size;

        void add(int name, int sort, int number) {
            if (size < MOST) {
                packed[size] = name;
                sorts[size] = sort;
                numbers[size] = number;
                size++;
            }
        }

        /** What the thing of that name is, or NONE. */
        int sortOf(int name) {
            for (int i = 0; i < size; i++) {
                if (packed[i] == name) {
                    return sorts[i];
                }
            }
            return NONE;
        }

        /** The number of the thing of that sort and name, or NONE. */
        int find(int sort, int name) {
            for (int i = 0; i < size; i++) {
                if (packed[i] == name && sorts[i] == sort) {
                    return numbers[i];
                }
            }
            return NONE;
        }

        /** The packed letters, or 0. */
        int nameOf(int sort, int number) {
            for (int i = 0; i < size; i++) {
                if (sorts[i] == sort && numbers[i] == number) {
                    return packed[i];
                }
            }
            return 0;
        }

        int letter(int name, int i) {
            int letters = 0;
            while (letters < MOST_LETTERS && name >>> 8 * letters != 0) {
                letters++;
            }
            return i < 0 || i >= letters ? NONE : name >>> 8 * (letters - 1 - i) & 255;
        }
    }

    /** The sets. Where a set may be missing, NONE stands for one with a single place. */
    private static final class Sets {
        final int[] firsts = new int[MOST_SETS], sizes = new int[MOST_SETS];
        int size;

        void add(int first, int many) {
            if (size < MOST_SETS) {
                firsts[size] = first;
                sizes[size] = many;
                size++;
            }
        }

        int sizeOf(int set) {
            return set < 0 || set >= size ? 1 : sizes[set];
        }

        int numberAt(int set, int offset) {
            return set < 0 || set >= size ? NONE : firsts[set] + offset;
        }

        /** How many numbers of the set stand ahead of this one; NONE, if it is not in the set. */
        int offsetOf(int set, int number) {
            if (set < 0 || set >= size) {
                return 0;
            }
            return number < firsts[set] || number - firsts[set] >= sizes[set] ? NONE : number - firsts[set];
        }

        boolean isWithin(int inner, int outer) {
            if (inner < 0 || inner >= size || outer < 0 || outer >= size) {
                return false;
            }
            return sizes[inner] == 0 || firsts[inner] >= firsts[outer]
                    && firsts[inner] + sizes[inner] <= firsts[outer] + sizes[outer];
        }
    }

    /**
     * Things with up to two sets (data, vars, rules), and the spots that these give them: the
     * places among the VALUES, the COLUMNS, the ROWS.
     */
    private static final class Things {
        private final Sets sets;
        final int[] ones, twos;
        private final int[] starts;
        int size, total;

        Things(Sets sets, int most) {
            this.sets = sets;
            ones = new int[Math.max(0, most)];
            twos = new int[Math.max(0, most)];
            starts = new int[Math.max(0, most)];
        }

        void clear() {
            size = 0;
            total = 0;
        }

        void add(int one, int two) {
            if (size < starts.length) {
                ones[size] = one;
                twos[size] = two;
                starts[size] = total;
                total += sets.sizeOf(one) * sets.sizeOf(two);
                size++;
            }
        }

        int spot(int k, int i, int j) {
            if (k < 0 || k >= size) {
                return NONE;
            }
            int one = sets.offsetOf(ones[k], i);
            int two = sets.offsetOf(twos[k], j);
            return one == NONE || two == NONE ? NONE : starts[k] + one * sets.sizeOf(twos[k]) + two;
        }

        /** The thing that has this spot. A thing of an empty set has none, so the last fitting start counts. */
        int owner(int spot) {
            if (spot < 0 || spot >= total) {
                return NONE;
            }
            int k = size - 1;
            while (k > 0 && starts[k] > spot) {
                k--;
            }
            return k;
        }

        int firstNumber(int spot) {
            int k = owner(spot);
            int width = k == NONE ? 0 : sets.sizeOf(twos[k]);
            return width <= 0 ? NONE : sets.numberAt(ones[k], (spot - starts[k]) / width);
        }

        int secondNumber(int spot) {
            int k = owner(spot);
            int width = k == NONE ? 0 : sets.sizeOf(twos[k]);
            return width <= 0 ? NONE : sets.numberAt(twos[k], (spot - starts[k]) % width);
        }
    }

    /** What a text declares. */
    private static final class Declared {
        final Names names = new Names();
        final Sets sets = new Sets();
        final Things tables, vars, rules;
        private final int[] values = new int[MOST_BYTES];
        private int valued;
        final int[] lows = new int[MOST_VARS], highs = new int[MOST_VARS];
        final int[] relations = new int[MOST_RULES];
        final Part[] lefts = new Part[MOST_RULES], rights = new Part[MOST_RULES];
        int goal;
        Part goalSum;
        long work;

        Declared() {
            tables = new Things(sets, MOST_TABLES);
            vars = new Things(sets, MOST_VARS);
            rules = new Things(sets, MOST_RULES);
        }

        void clear() {
            names.size = 0;
            sets.size = 0;
            tables.clear();
            vars.clear();
            rules.clear();
            valued = 0;
            goal = 0;
            goalSum = null;
            work = 0;
        }

        void addValue(int value) {
            if (valued < values.length) {
                values[valued] = value;
                valued++;
            }
        }

        int valueAt(int spot) {
            return spot < 0 || spot >= valued ? 0 : values[spot];
        }

        boolean isTooLarge() {
            return vars.total > MOST_COLUMNS || rules.total > MOST_ROWS || work > MOST_WORK;
        }
    }

    /** One PART of a SUM; the next one follows it. */
    private static final class Part {
        final boolean minus;
        /** The chain of its FACTORS without vars: their order is free. */
        Factor plain;
        /** The only FACTOR that HOLDS vars, or null. */
        Factor holder;
        Part next;

        Part(boolean minus) {
            this.minus = minus;
        }

        void add(Factor factor) {
            if (factor.hasVar) {
                holder = factor;
            } else {
                factor.next = plain;
                plain = factor;
            }
        }
    }

    private static final class Factor {
        final int kind;
        /** The NUMBER; the index's slot; which data or var; the slot of the first index of a sum. */
        final int which;
        /** The PLACES of data or a var; the sets of a sum's indices. */
        final int one, two;
        Part inner;
        boolean hasVar;
        Factor next;

        Factor(int kind, int which, int one, int two) {
            this.kind = kind;
            this.which = which;
            this.one = one;
            this.two = two;
            hasVar = kind == OF_VAR;
        }
    }

    /** Reads TOKENS to what they declare. A method that answers false or null has told the FAULT. */
    private static final class Reader {
        private final Tokens tokens;
        private Declared to;
        /** The VALUE and the OF that were read last. */
        private int value, one, two;
        private final int[] slots = new int[MOST_INDICES];
        private int around;
        /** How often what is being read will be worked out. */
        private long times;

        Reader(Tokens tokens, Declared to) {
            this.tokens = tokens;
            this.to = to;
        }

        boolean readText(Declared into) {
            to = into;
            to.clear();
            around = 0;
            for (int declarations = 0; declarations < MOST_BYTES; declarations++) {
                boolean fine;
                switch (tokens.kind()) {
                    case END:
                        return true;
                    case SET:
                        fine = readSet();
                        break;
                    case DATA:
                        fine = readTable();
                        break;
                    case VAR:
                        fine = readVar();
                        break;
                    case RULE:
                        fine = readRule();
                        break;
                    case GOAL:
                        fine = readGoal();
                        break;
                    default:
                        fine = tokens.refuse();
                }
                if (!fine) {
                    return false;
                }
            }
            return tokens.refuse();
        }

        /** Takes the declaration's WORD and the NAME behind it. */
        private boolean readName(int sort, int number, int most) {
            tokens.advance();
            if (tokens.kind() != NAME || number >= most || to.names.sortOf(tokens.named()) != NONE) {
                return tokens.refuse();
            }
            to.names.add(tokens.named(), sort, number);
            tokens.advance();
            return true;
        }

        private boolean readSet() {
            if (!readName(SETS, to.sets.size, MOST_SETS) || !tokens.take('=')) {
                return false;
            }
            int first = tokens.value();
            if (!tokens.take(NUMBER) || !tokens.take(DOTS)) {
                return false;
            }
            int many = tokens.value() - first + 1;
            if (tokens.kind() != NUMBER || many < 0 || many > MOST_NUMBERS) {
                return tokens.refuse();
            }
            tokens.advance();
            to.sets.add(first, many);
            return tokens.take(';');
        }

        private boolean readTable() {
            if (!readName(TABLES, to.tables.size, MOST_TABLES) || !readOf() || !tokens.take('=')) {
                return false;
            }
            int places = to.sets.sizeOf(one) * to.sets.sizeOf(two);
            for (int i = 0; i < places; i++) {
                if (!readValue()) {
                    return false;
                }
                to.addValue(value);
            }
            to.tables.add(one, two);
            return tokens.take(';');
        }

        private boolean readVar() {
            int k = to.vars.size;
            if (!readName(VARS, k, MOST_VARS) || !readOf() || !tokens.take(IN) || !readValue()) {
                return false;
            }
            int low = value;
            if (!tokens.take(DOTS)) {
                return false;
            }
            int place = tokens.place();
            if (!readValue()) {
                return false;
            }
            if (value < low) {
                tokens.refuseAt(place);
                return false;
            }
            to.lows[k] = low;
            to.highs[k] = value;
            to.vars.add(one, two);
            return tokens.take(';');
        }

        private boolean readRule() {
            int k = to.rules.size;
            if (!readName(RULES, k, MOST_RULES)) {
                return false;
            }
            if (tokens.kind() == FOR) {
                tokens.advance();
                if (!readIndices()) {
                    return false;
                }
            }
            if (!tokens.take(':')) {
                return false;
            }
            to.rules.add(setAround(0), setAround(1));
            times = to.sets.sizeOf(setAround(0)) * to.sets.sizeOf(setAround(1));
            to.lefts[k] = readSum(0);
            if (to.lefts[k] == null || !readRelation(k)) {
                return false;
            }
            to.rights[k] = readSum(0);
            dropIndices(0);
            return to.rights[k] != null && tokens.take(';');
        }

        private boolean readRelation(int k) {
            switch (tokens.kind()) {
                case AT_MOST:
                    to.relations[k] = -1;
                    break;
                case '=':
                    to.relations[k] = 0;
                    break;
                case AT_LEAST:
                    to.relations[k] = 1;
                    break;
                default:
                    return tokens.refuse();
            }
            tokens.advance();
            return true;
        }

        private boolean readGoal() {
            if (to.goal != 0) {
                return tokens.refuse();
            }
            tokens.advance();
            if (tokens.kind() != MIN && tokens.kind() != MAX) {
                return tokens.refuse();
            }
            to.goal = tokens.kind() == MIN ? 1 : 2;
            tokens.advance();
            times = 1;
            to.goalSum = readSum(0);
            return to.goalSum != null && tokens.take(';');
        }

        private boolean readOf() {
            one = NONE;
            two = NONE;
            if (tokens.kind() != '[') {
                return true;
            }
            tokens.advance();
            one = readSetName();
            if (one == NONE) {
                return false;
            }
            if (tokens.kind() == ',') {
                tokens.advance();
                two = readSetName();
                if (two == NONE) {
                    return false;
                }
            }
            return tokens.take(']');
        }

        private int readSetName() {
            int set = to.names.find(SETS, tokens.named());
            if (set == NONE) {
                tokens.refuse();
            } else {
                tokens.advance();
            }
            return set;
        }

        private boolean readValue() {
            boolean minus = tokens.kind() == '-';
            if (minus) {
                tokens.advance();
            }
            value = minus ? -tokens.value() : tokens.value();
            return tokens.take(NUMBER);
        }

        private boolean readIndices() {
            for (int more = 1; more >= 0; more--) {
                int name = tokens.named();
                if (tokens.kind() != NAME || to.names.sortOf(name) != NONE) {
                    return tokens.refuse();
                }
                tokens.advance();
                if (!tokens.take(IN)) {
                    return false;
                }
                int set = to.names.find(SETS, tokens.named());
                if (set == NONE) {
                    return tokens.refuse();
                }
                tokens.advance();
                if (around < MOST_INDICES) {
                    to.names.add(name, INDICES, around);
                    slots[around] = set;
                    around++;
                }
                if (more == 0 || tokens.kind() != ',') {
                    return true;
                }
                tokens.advance();
            }
            return true;
        }

        private int setAround(int slot) {
            return slot < 0 || slot >= around ? NONE : slots[slot];
        }

        private void dropIndices(int keep) {
            to.names.size -= around - keep;
            around = keep;
        }

        private Part readSum(int depth) {
            Part first = new Part(tokens.kind() == '-');
            if (first.minus) {
                tokens.advance();
            }
            Part part = first;
            for (int factors = 0; factors < MOST_BYTES; factors++) {
                int place = tokens.place();
                Factor factor = readFactor(depth);
                if (factor == null) {
                    return null;
                }
                if (factor.hasVar && part.holder != null) {
                    tokens.refuseAt(place);
                    return null;
                }
                part.add(factor);
                int sign = tokens.kind();
                if (sign != '*' && sign != '+' && sign != '-') {
                    return first;
                }
                tokens.advance();
                if (sign != '*') {
                    part.next = new Part(sign == '-');
                    part = part.next;
                }
            }
            tokens.refuse();
            return null;
        }

        private Factor readFactor(int depth) {
            to.work += times;
            switch (tokens.kind()) {
                case NUMBER:
                    Factor number = new Factor(OF_NUMBER, tokens.value(), NONE, NONE);
                    tokens.advance();
                    return number;
                case NAME:
                    return readNamed();
                case '(':
                case SUM:
                    return readInner(depth);
                default:
                    tokens.refuse();
                    return null;
            }
        }

        private Factor readNamed() {
            int sort = to.names.sortOf(tokens.named());
            int which = to.names.find(sort, tokens.named());
            if (which == NONE || sort != INDICES && sort != TABLES && sort != VARS) {
                tokens.refuse();
                return null;
            }
            tokens.advance();
            if (sort == INDICES) {
                return new Factor(OF_INDEX, which, NONE, NONE);
            }
            Things things = sort == TABLES ? to.tables : to.vars;
            int first = 0;
            int second = 0;
            if (things.ones[which] != NONE) {
                first = readPlace('[', things.ones[which]);
                if (first == NO_PLACE) {
                    return null;
                }
                second = things.twos[which] == NONE ? 0 : readPlace(',', things.twos[which]);
                if (second == NO_PLACE || !tokens.take(']')) {
                    return null;
                }
            }
            return new Factor(sort == TABLES ? OF_TABLE : OF_VAR, which, first, second);
        }

        /** Takes the SIGN ahead of a PLACE and the PLACE, which must be one of that set. */
        private int readPlace(int sign, int set) {
            if (!tokens.take(sign)) {
                return NO_PLACE;
            }
            int place = NO_PLACE;
            int slot = to.names.find(INDICES, tokens.named());
            if (slot != NONE && to.sets.isWithin(setAround(slot), set)) {
                place = ~slot;
            }
            if (tokens.kind() == NUMBER && to.sets.offsetOf(set, tokens.value()) != NONE) {
                place = tokens.value();
            }
            if (place == NO_PLACE) {
                tokens.refuse();
            } else {
                tokens.advance();
            }
            return place;
        }

        /** Reads ( SUM ) or sum ( INDICES : SUM ). */
        private Factor readInner(int depth) {
            if (depth >= MOST_DEPTH) {
                tokens.refuse();
                return null;
            }
            int keep = around;
            long timesHere = times;
            boolean repeated = tokens.kind() == SUM;
            tokens.advance();
            if (repeated && !(tokens.take('(') && readIndices() && tokens.take(':'))) {
                return null;
            }
            Factor factor = new Factor(INNER, keep, setAround(keep), setAround(keep + 1));
            times *= to.sets.sizeOf(factor.one) * to.sets.sizeOf(factor.two);
            times = Math.min(times, MANY_TIMES);
            factor.inner = readSum(depth + 1);
            if (factor.inner == null || !tokens.take(')')) {
                return null;
            }
            for (Part part = factor.inner; part != null; part = part.next) {
                factor.hasVar = factor.hasVar || part.holder != null;
            }
            times = timesHere;
            dropIndices(keep);
            return factor;
        }
    }

    /** The rows of factors, the prices and the point of what was declared. */
    private static final class Model {
        private Declared of;
        final long[][] factors = new long[MOST_ROWS][MOST_COLUMNS];
        final long[] rights = new long[MOST_ROWS];
        final long[] prices = new long[MOST_COLUMNS];
        long priceWithout;
        final int[] point = new int[MOST_COLUMNS];
        /** The numbers that the indices around stand for now. */
        private final int[] numbers = new int[MOST_INDICES];
        /** What is being worked out: with vars, and without. */
        private long[] with;
        private long without;

        Model(Declared of) {
            this.of = of;
            with = prices;
        }

        void make(Declared declared) {
            of = declared;
            for (int column = 0; column < of.vars.total && column < MOST_COLUMNS; column++) {
                int k = of.vars.owner(column);
                point[column] = k == NONE ? 0 : of.lows[k];
            }
            for (int row = 0; row < of.rules.total && row < MOST_ROWS; row++) {
                makeRow(row);
            }
            start(prices);
            addSum(of.goalSum, 1, 0);
            priceWithout = without;
        }

        private void makeRow(int row) {
            int rule = of.rules.owner(row);
            if (rule == NONE) {
                return;
            }
            numbers[0] = of.rules.firstNumber(row);
            numbers[1] = of.rules.secondNumber(row);
            start(factors[row]);
            addSum(of.lefts[rule], 1, 0);
            addSum(of.rights[rule], -1, 0);
            rights[row] = -without;
        }

        private void start(long[] into) {
            with = into;
            Arrays.fill(with, 0);
            without = 0;
        }

        private void addSum(Part first, long times, int depth) {
            for (Part part = first; part != null; part = part.next) {
                long product = part.minus ? -times : times;
                for (Factor factor = part.plain; factor != null; factor = factor.next) {
                    product *= valueOf(factor, depth);
                }
                if (part.holder == null) {
                    without += product;
                } else {
                    addHolder(part.holder, product, depth);
                }
            }
        }

        private void addHolder(Factor factor, long times, int depth) {
            if (factor.kind == INNER) {
                addInner(factor, times, depth);
                return;
            }
            int column = of.vars.spot(factor.which, numberFor(factor.one), numberFor(factor.two));
            if (column >= 0 && column < with.length) {
                with[column] += times;
            }
        }

        private void addInner(Factor factor, long times, int depth) {
            if (depth >= MOST_DEPTH) {
                return;
            }
            int ones = of.sets.sizeOf(factor.one);
            int twos = of.sets.sizeOf(factor.two);
            for (int i = 0; i < ones; i++) {
                stand(factor.which, factor.one, i);
                for (int j = 0; j < twos; j++) {
                    stand(factor.which + 1, factor.two, j);
                    addSum(factor.inner, times, depth + 1);
                }
            }
        }

        private void stand(int slot, int set, int offset) {
            if (set != NONE && slot >= 0 && slot < numbers.length) {
                numbers[slot] = of.sets.numberAt(set, offset);
            }
        }

        /** Of a FACTOR without vars. */
        private long valueOf(Factor factor, int depth) {
            switch (factor.kind) {
                case OF_NUMBER:
                    return factor.which;
                case OF_INDEX:
                    return numberFor(~factor.which);
                case OF_TABLE:
                    return of.valueAt(of.tables.spot(factor.which, numberFor(factor.one), numberFor(factor.two)));
                default:
                    long kept = without;
                    without = 0;
                    addInner(factor, 1, depth);
                    long value = without;
                    without = kept;
                    return value;
            }
        }

        private int numberFor(int place) {
            if (place >= 0) {
                return place;
            }
            return ~place < numbers.length ? numbers[~place] : 0;
        }

        long atPoint(long[] row) {
            long sum = 0;
            for (int column = 0; column < of.vars.total && column < row.length; column++) {
                sum += row[column] * point[column];
            }
            return sum;
        }
    }
}
