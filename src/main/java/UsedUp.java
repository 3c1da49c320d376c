/**
 * A judge of what small asks can make a program spend. The document DOC.md has
 * the promises; words in capitals in the comments are that document's terms.
 */
public final class UsedUp {
    public static final int NONE = -1;
    public static final long MUCH = 1000000000000L;

    private static final int BAD_NUMBER = -1;
    private static final int NO_PLACE = -2;
    private static final int NO_SPACE = -5;
    private static final int BAD_TEXT = -6;

    private static final int TIME = 0;
    private static final int ROOM = 1;

    private static final int NAMES = 4;
    private static final int MAX_SIZE = 5;
    private static final int MAX_WEIGHT = 9;
    private static final int MAX_NUMBER = 1000;
    private static final int MAX_CAP = 1000000;
    private static final int MAX_ORDINARY = 12;
    private static final int MAX_ASKS = 1296;

    private static final int MAX_BYTES = 400;
    private static final int MAX_STEPS = 60;
    private static final int MAX_PLACES = 8;
    private static final int MAX_OPEN = 8;
    private static final int MAX_DEFS = 6;
    /** A factor and the sign behind it take two bytes at the least. */
    private static final int MAX_FACTORS = MAX_BYTES / 2;
    /** The DEFS, and the BLOCK behind them. */
    private static final int MAX_PARTS = MAX_DEFS + 1;
    private static final int LOCK_COUNT = 8;
    /** 2 to the 39 is below MUCH, 2 to the 40 above it. */
    private static final int FIRST_ABOVE_MUCH = 40;
    private static final int FED_BYTES = 20;

    private static final int SPEND = 0;
    private static final int TIMES = 1;
    private static final int HOLD = 2;
    private static final int LOCK = 3;
    private static final int CALL = 4;
    private static final int IF = 5;

    private static final int FIRST_BLOCK = 0;
    private static final int ELSE_BLOCK = 1;

    private static final int PLAIN = 0;
    private static final int NAMED = 1;
    private static final int DOUBLED = 2;

    /** The PROGRAM, and the tables that the next text is read into. */
    private Script script = new Script();
    private Script spare = new Script();
    private final Tape tape = new Tape();
    private final Reader reader = new Reader(tape, spare);
    private final Meter meter = new Meter();
    private final Locks locks = new Locks();
    private final Asks asks = new Asks();
    private final Planner planner = new Planner(meter, asks);
    private boolean hasProgram = false;
    private final int[] caps = new int[MAX_PLACES];
    private final int[] latest = new int[NAMES];
    private boolean hasLatest = false;
    private final int[] given = new int[NAMES];
    private int faultPlace = NONE;
    private int refusal = 0;

    public UsedUp() {
        fillWith(caps, NONE);
    }

    public int name(int name, int size, int weight) {
        if (!within(name, NAMES - 1) || !within(size, MAX_SIZE) || !within(weight, MAX_WEIGHT)) {
            return refuse(BAD_NUMBER);
        }
        asks.describe(name, size, weight);
        return accept(0);
    }

    public int feed(int a, int b, int c, int d, int e) {
        if (!tape.hasSpaceFor(FED_BYTES)) {
            return NONE;
        }
        tape.append(a);
        tape.append(b);
        tape.append(c);
        tape.append(d);
        tape.append(e);
        return tape.length;
    }

    public int end(int n) {
        if (!within(n, tape.length)) {
            return NONE;
        }
        tape.length = n;
        return n;
    }

    public int program() {
        faultPlace = reader.read(spare);
        tape.length = 0;
        if (faultPlace != NONE) {
            return refuse(BAD_TEXT);
        }
        Script before = script;
        script = spare;
        spare = before;
        hasProgram = true;
        fillWith(caps, NONE);
        locks.learn(script);
        return accept(script.places);
    }

    public int fault() {
        return faultPlace;
    }

    public int cap(int place, int cap) {
        if (cap != NONE && !within(cap, MAX_CAP)) {
            return refuse(BAD_NUMBER);
        }
        if (!isPlace(place)) {
            return refuse(NO_PLACE);
        }
        int before = at(caps, place);
        put(caps, place, cap);
        return accept(before);
    }

    public int capped(int place) {
        return isPlace(place) ? at(caps, place) : NONE;
    }

    public long spends(int sort, int a, int b, int c, int d) {
        if (!hasProgram || !isSort(sort) || !areNumbers(a, b, c, d)) {
            return NONE;
        }
        putRow(given, 0, a, b, c, d);
        return meter.brings(sort, script, caps, given);
    }

    public long worst(int sort, int w) {
        if (!isSort(sort) || w < 0) {
            return refuse(BAD_NUMBER);
        }
        if (!hasProgram) {
            return refuse(BAD_TEXT);
        }
        long most = NONE;
        int lightest = 0;
        int total = asks.prepare(script);
        for (int i = 0; i < total && i < MAX_ASKS; i++) {
            int weight = asks.weightOf(i);
            if (weight > w) {
                continue;
            }
            long brought = meter.brings(sort, script, caps, asks.numbers);
            if (brought > most || brought == most && weight < lightest) {
                most = brought;
                lightest = weight;
                keepAsLatest();
            }
        }
        refusal = 0;
        return most;
    }

    public int cheapest(int sort, long s) {
        if (!isSort(sort)) {
            return refuse(BAD_NUMBER);
        }
        if (!hasProgram) {
            return refuse(BAD_TEXT);
        }
        int lightest = NONE;
        int total = asks.prepare(script);
        for (int i = 0; i < total && i < MAX_ASKS; i++) {
            int weight = asks.weightOf(i);
            if (lightest != NONE && weight >= lightest) {
                continue;
            }
            if (meter.brings(sort, script, caps, asks.numbers) >= s) {
                lightest = weight;
                keepAsLatest();
            }
        }
        return lightest == NONE ? refuse(BAD_TEXT) : accept(lightest);
    }

    public int ask(int k) {
        return hasLatest && within(k, NAMES - 1) ? at(latest, k) : NONE;
    }

    public long where(int place) {
        if (!isPlace(place) || !hasLatest) {
            return NONE;
        }
        return meter.goesTo(place, script, caps, latest);
    }

    public int ordinary(int a, int b, int c, int d) {
        if (!areNumbers(a, b, c, d)) {
            return refuse(BAD_NUMBER);
        }
        if (planner.ordinaryCount >= MAX_ORDINARY) {
            return refuse(NO_SPACE);
        }
        planner.addOrdinary(a, b, c, d);
        return accept(planner.ordinaryCount);
    }

    public long need(int place) {
        return isPlace(place) ? planner.needOf(script, place) : NONE;
    }

    public int budgets(long bound) {
        if (bound < 0) {
            return refuse(BAD_NUMBER);
        }
        if (!hasProgram) {
            return refuse(BAD_TEXT);
        }
        int chosen = planner.fewest(script, bound);
        if (chosen == NONE) {
            return refuse(BAD_TEXT);
        }
        planner.capChosen(script, chosen, caps);
        return accept(Integer.bitCount(chosen));
    }

    public int ahead(int l, int m) {
        if (!hasProgram || !within(l, LOCK_COUNT - 1) || !within(m, LOCK_COUNT - 1)) {
            return NONE;
        }
        return at(locks.heldAhead, l) >> m & 1;
    }

    public int tangled() {
        return locks.ledBack;
    }

    public int count(int what) {
        switch (what) {
            case 0:
                return script.places;
            case 1:
                return script.steps;
            case 2:
                return planner.ordinaryCount;
            case 3:
                return capCount();
            case 4:
                return tape.length;
            case 5:
                return script.defs;
            default:
                return NONE;
        }
    }

    public int status() {
        return refusal;
    }

    private int refuse(int by) {
        refusal = by;
        return by;
    }

    private int accept(int answer) {
        refusal = 0;
        return answer;
    }

    private boolean isPlace(int place) {
        return place >= 0 && place < script.places;
    }

    private static boolean isSort(int sort) {
        return sort == TIME || sort == ROOM;
    }

    private static boolean areNumbers(int a, int b, int c, int d) {
        return within(a, MAX_NUMBER) && within(b, MAX_NUMBER)
            && within(c, MAX_NUMBER) && within(d, MAX_NUMBER);
    }

    private void keepAsLatest() {
        copyRow(asks.numbers, 0, latest);
        hasLatest = true;
    }

    private int capCount() {
        int found = 0;
        for (int place = 0; place < MAX_PLACES; place++) {
            if (at(caps, place) != NONE) {
                found++;
            }
        }
        return found;
    }

    private static boolean within(int number, int most) {
        return number >= 0 && number <= most;
    }

    private static int at(int[] row, int i) {
        return i >= 0 && i < row.length ? row[i] : NONE;
    }

    private static long at(long[] row, int i) {
        return i >= 0 && i < row.length ? row[i] : 0;
    }

    private static void put(int[] row, int i, int number) {
        if (i >= 0 && i < row.length) {
            row[i] = number;
        }
    }

    private static void put(long[] row, int i, long number) {
        if (i >= 0 && i < row.length) {
            row[i] = number;
        }
    }

    private static void fillWith(int[] row, int number) {
        for (int i = 0; i < row.length; i++) {
            row[i] = number;
        }
    }

    private static void fillWithNothing(long[] row) {
        for (int i = 0; i < row.length; i++) {
            row[i] = 0;
        }
    }

    private static void putRow(int[] row, int from, int a, int b, int c, int d) {
        put(row, from, a);
        put(row, from + 1, b);
        put(row, from + 2, c);
        put(row, from + 3, d);
    }

    private static void copyRow(int[] source, int from, int[] target) {
        for (int k = 0; k < NAMES; k++) {
            put(target, k, at(source, from + k));
        }
    }

    private static long sum(long x, long y) {
        return Math.min(MUCH, x + y);
    }

    private static long product(long x, long y) {
        if (x <= 0 || y <= 0) {
            return 0;
        }
        return x > MUCH / y ? MUCH : x * y;
    }

    private static long powerOfTwo(int n) {
        if (n <= 0) {
            return 1;
        }
        return n >= FIRST_ABOVE_MUCH ? MUCH : 1L << n;
    }

    /** The bytes that are fed, until a program is read from them. */
    private static final class Tape {
        final int[] bytes = new int[MAX_BYTES];
        int length = 0;

        boolean hasSpaceFor(int more) {
            return length + more <= MAX_BYTES;
        }

        void append(int number) {
            for (int shift = 24; shift >= 0; shift -= 8) {
                put(bytes, length, number >> shift & 255);
                length++;
            }
        }
    }

    /** The TOKENS of the TAPE, one at a time. */
    private static final class Tokens {
        private static final int OTHER = 0;
        private static final int LETTERS = 1;
        private static final int DIGITS = 2;

        private final Tape tape;
        /** The first byte of the TOKEN, and the one behind its last. */
        int from = 0;
        private int to = 0;

        Tokens(Tape tape) {
            this.tape = tape;
        }

        void start() {
            to = 0;
            advance();
        }

        void advance() {
            int i = to;
            while (i < tape.length && at(tape.bytes, i) == ' ') {
                i++;
            }
            from = i;
            int sort = sortOf(at(tape.bytes, i));
            to = Math.min(i + 1, tape.length);
            while (sort != OTHER && to < tape.length && sortOf(at(tape.bytes, to)) == sort) {
                to++;
            }
        }

        private static int sortOf(int code) {
            if (code >= 'a' && code <= 'z') {
                return LETTERS;
            }
            return code >= '0' && code <= '9' ? DIGITS : OTHER;
        }

        boolean atEnd() {
            return from >= tape.length;
        }

        boolean is(String token) {
            if (to - from != token.length()) {
                return false;
            }
            for (int i = 0; i < token.length(); i++) {
                if (at(tape.bytes, from + i) != token.charAt(i)) {
                    return false;
                }
            }
            return true;
        }

        boolean take(String token) {
            if (!is(token)) {
                return false;
            }
            advance();
            return true;
        }

        /** Which of the letters from the lowest to the highest the TOKEN is; NONE if it is another. */
        int letterHere(char lowest, char highest) {
            int code = at(tape.bytes, from);
            boolean fits = to - from == 1 && code >= lowest && code <= highest;
            return fits ? code - lowest : NONE;
        }

        /** The NUMBER that the TOKEN is; NONE if it is none, or too great. */
        int numberHere(int most) {
            if (atEnd() || sortOf(at(tape.bytes, from)) != DIGITS) {
                return NONE;
            }
            int number = 0;
            for (int i = from; i < to; i++) {
                // Digits behind too many others must not lead around to a small number.
                number = Math.min(number * 10 + at(tape.bytes, i) - '0', MAX_NUMBER + 1);
            }
            return number <= most ? number : NONE;
        }
    }

    /**
     * A PROGRAM as tables: its STEPS in the order of the TEXT, in parts (one for
     * each DEF, the last for the BLOCK behind them).
     */
    private static final class Script {
        int steps = 0;
        int places = 0;
        int defs = 0;
        private int factors = 0;
        /** The first STEP of each part, and behind the last part the number of STEPS. */
        final int[] partStarts = new int[MAX_PARTS + 1];
        final int[] placeSteps = new int[MAX_PLACES];
        final int[] kinds = new int[MAX_STEPS];
        /** The STEP that a STEP stands in (NONE: it stands in its part alone), and in which of its BLOCKS. */
        final int[] parents = new int[MAX_STEPS];
        final int[] blocks = new int[MAX_STEPS];
        /** The lock's NUMBER, the part that is called, the NUMBER behind "<", or the PLACE. */
        final int[] values = new int[MAX_STEPS];
        private final int[] ifNames = new int[MAX_STEPS];
        private final int[] amountStarts = new int[MAX_STEPS];
        private final int[] amountEnds = new int[MAX_STEPS];
        private final int[] factorKinds = new int[MAX_FACTORS];
        private final int[] factorValues = new int[MAX_FACTORS];
        /** 1 for the first FACTOR of a TERM, 0 for those that it is multiplied by. */
        private final int[] factorOpens = new int[MAX_FACTORS];
        /** The NAMES that stand anywhere in it, as bits. */
        int usedNames = 0;

        void clear() {
            steps = 0;
            places = 0;
            defs = 0;
            factors = 0;
            usedNames = 0;
            fillWith(partStarts, 0);
        }

        int addStep(int kind, int parent, int block) {
            int step = steps;
            put(kinds, step, kind);
            put(parents, step, parent);
            put(blocks, step, block);
            put(values, step, NONE);
            put(ifNames, step, NONE);
            put(amountStarts, step, factors);
            put(amountEnds, step, factors);
            steps++;
            if (kind == TIMES) {
                put(values, step, places);
                put(placeSteps, places, step);
                places++;
            }
            return step;
        }

        void setValue(int step, int value) {
            put(values, step, value);
        }

        void setIfName(int step, int name) {
            put(ifNames, step, name);
            usedNames |= 1 << name;
        }

        void addFactor(int kind, int value, int opens) {
            put(factorKinds, factors, kind);
            put(factorValues, factors, value);
            put(factorOpens, factors, opens);
            factors++;
            if (kind != PLAIN) {
                usedNames |= 1 << value;
            }
        }

        void closeAmount(int step) {
            put(amountEnds, step, factors);
        }

        /** What has been read since the latest part was closed becomes a part. */
        void closeDef() {
            defs++;
            put(partStarts, defs, steps);
        }

        void closeLastPart() {
            put(partStarts, defs + 1, steps);
        }

        boolean holds(int step, int[] ask) {
            return at(ask, at(ifNames, step)) < at(values, step);
        }

        long amountOf(int step, int[] ask) {
            int from = Math.max(at(amountStarts, step), 0);
            int behind = Math.min(at(amountEnds, step), MAX_FACTORS);
            long all = 0;
            long term = 0;
            for (int i = from; i < behind; i++) {
                int kind = factorKinds[i];
                int number = kind == PLAIN ? factorValues[i] : at(ask, factorValues[i]);
                long factor = kind == DOUBLED ? powerOfTwo(number) : number;
                if (factorOpens[i] == 1) {
                    all = sum(all, term);
                    term = factor;
                } else {
                    term = product(term, factor);
                }
            }
            return sum(all, term);
        }
    }

    /**
     * Reads the TAPE into a script. It never goes past a TOKEN that can't go on,
     * so where it stops, the TOKEN that it stands at is the FAULT.
     */
    private static final class Reader {
        private final Tokens tokens;
        private Script into;
        /** For each open "{" the STEP that it belongs to (NONE: a DEF), and which BLOCK of it. */
        private final int[] openSteps = new int[MAX_OPEN];
        private final int[] openBlocks = new int[MAX_OPEN];
        private int open = 0;
        /** Whether the BLOCK that is being read has no STEP yet. */
        private boolean bare = true;
        private final int[] defParts = new int[MAX_DEFS];
        private int letter = NONE;

        Reader(Tape tape, Script into) {
            this.tokens = new Tokens(tape);
            this.into = into;
        }

        /** The FAULT; NONE if the TAPE has been read whole. */
        int read(Script target) {
            into = target;
            into.clear();
            fillWith(defParts, NONE);
            open = 0;
            bare = true;
            tokens.start();
            // Each round takes a TOKEN at least, so the bytes bound the rounds.
            for (int round = 0; round <= MAX_BYTES; round++) {
                if (isWhole()) {
                    into.closeLastPart();
                    return NONE;
                }
                boolean goesOn = tokens.is("def") ? beginDef()
                    : tokens.is("}") ? closeBlock() : beginStep();
                if (!goesOn) {
                    return tokens.from;
                }
            }
            return tokens.from;
        }

        private boolean isWhole() {
            return tokens.atEnd() && open == 0 && !bare;
        }

        private boolean beginDef() {
            if (open > 0 || !bare) {
                return false;
            }
            tokens.advance();
            letter = tokens.letterHere('f', 'k');
            if (letter == NONE || at(defParts, letter) != NONE) {
                return false;
            }
            tokens.advance();
            return openBlock(NONE, FIRST_BLOCK);
        }

        private boolean openBlock(int step, int block) {
            if (open >= MAX_OPEN || !tokens.take("{")) {
                return false;
            }
            put(openSteps, open, step);
            put(openBlocks, open, block);
            open++;
            bare = true;
            return true;
        }

        private boolean closeBlock() {
            if (open <= 0 || bare) {
                return false;
            }
            tokens.advance();
            open--;
            int step = at(openSteps, open);
            if (step == NONE) {
                put(defParts, letter, into.defs);
                into.closeDef();
                bare = true;
                return true;
            }
            boolean mayHaveElse = at(into.kinds, step) == IF && at(openBlocks, open) == FIRST_BLOCK;
            return !mayHaveElse || !tokens.take("else") || openBlock(step, ELSE_BLOCK);
        }

        private boolean beginStep() {
            int kind = kindHere();
            if (kind == NONE || into.steps >= MAX_STEPS || kind == TIMES && into.places >= MAX_PLACES) {
                return false;
            }
            tokens.advance();
            int parent = open > 0 ? at(openSteps, open - 1) : NONE;
            int block = open > 0 ? at(openBlocks, open - 1) : FIRST_BLOCK;
            int step = into.addStep(kind, parent, block);
            bare = false;
            switch (kind) {
                case SPEND:
                    return readAmount(step) && tokens.take(";");
                case CALL:
                    return readCalled(step) && tokens.take(";");
                case LOCK:
                    return readNumber(step, LOCK_COUNT - 1) && openBlock(step, FIRST_BLOCK);
                case IF:
                    return readTest(step) && openBlock(step, FIRST_BLOCK);
                default:
                    return readAmount(step) && openBlock(step, FIRST_BLOCK);
            }
        }

        private int kindHere() {
            if (tokens.is("spend")) {
                return SPEND;
            }
            if (tokens.is("times")) {
                return TIMES;
            }
            if (tokens.is("hold")) {
                return HOLD;
            }
            if (tokens.is("lock")) {
                return LOCK;
            }
            if (tokens.is("call")) {
                return CALL;
            }
            return tokens.is("if") ? IF : NONE;
        }

        private boolean readNumber(int step, int most) {
            int number = tokens.numberHere(most);
            if (number == NONE) {
                return false;
            }
            into.setValue(step, number);
            tokens.advance();
            return true;
        }

        private boolean readCalled(int step) {
            int part = at(defParts, tokens.letterHere('f', 'k'));
            if (part == NONE) {
                return false;
            }
            into.setValue(step, part);
            tokens.advance();
            return true;
        }

        private boolean readTest(int step) {
            int tested = tokens.letterHere('a', 'd');
            if (tested == NONE) {
                return false;
            }
            into.setIfName(step, tested);
            tokens.advance();
            return tokens.take("<") && readNumber(step, MAX_NUMBER);
        }

        private boolean readAmount(int step) {
            int opens = 1;
            for (int i = 0; i < MAX_FACTORS; i++) {
                if (!readFactor(opens)) {
                    return false;
                }
                boolean added = tokens.is("+");
                if (!added && !tokens.is("*")) {
                    into.closeAmount(step);
                    return true;
                }
                opens = added ? 1 : 0;
                tokens.advance();
            }
            return false;
        }

        private boolean readFactor(int opens) {
            int number = tokens.numberHere(MAX_NUMBER);
            if (number != NONE) {
                into.addFactor(PLAIN, number, opens);
                tokens.advance();
                return true;
            }
            int kind = NAMED;
            if (tokens.is("double")) {
                kind = DOUBLED;
                tokens.advance();
            }
            int named = tokens.letterHere('a', 'd');
            if (named == NONE) {
                return false;
            }
            into.addFactor(kind, named, opens);
            tokens.advance();
            return true;
        }
    }

    /** Finds TIME and ROOM of an ASK, and WHERE its TIME goes. */
    private static final class Meter {
        /** AMOUNT of a spend or hold, TURNS of a times, the BLOCK that an if goes into. */
        private final long[] figures = new long[MAX_STEPS];
        /** What the BLOCK of a STEP brings, and what the STEP itself brings. */
        private final long[] inside = new long[MAX_STEPS];
        private final long[] whole = new long[MAX_STEPS];
        private final long[] partBrings = new long[MAX_PARTS];
        /** How often a STEP, and a part, is come to. */
        private final long[] comings = new long[MAX_STEPS];
        private final long[] partComings = new long[MAX_PARTS];

        long brings(int sort, Script script, int[] caps, int[] ask) {
            findFigures(script, caps, ask);
            // A call is of a part ahead of its own, so what it brings is known when it is asked for.
            for (int part = 0; part <= script.defs; part++) {
                addUp(sort, script, part);
            }
            return at(partBrings, script.defs);
        }

        private void findFigures(Script script, int[] caps, int[] ask) {
            for (int step = 0; step < script.steps && step < MAX_STEPS; step++) {
                inside[step] = 0;
                switch (script.kinds[step]) {
                    case IF:
                        figures[step] = script.holds(step, ask) ? FIRST_BLOCK : ELSE_BLOCK;
                        break;
                    case TIMES:
                        int cap = at(caps, script.values[step]);
                        long turns = script.amountOf(step, ask);
                        figures[step] = cap == NONE ? turns : Math.min(turns, cap);
                        break;
                    case SPEND:
                    case HOLD:
                        figures[step] = script.amountOf(step, ask);
                        break;
                    default:
                        figures[step] = 0;
                        break;
                }
            }
        }

        /** Backwards, so that each STEP comes behind all that stand in it. */
        private void addUp(int sort, Script script, int part) {
            int first = Math.max(at(script.partStarts, part), 0);
            int behind = Math.min(at(script.partStarts, part + 1), MAX_STEPS);
            long all = 0;
            for (int step = behind - 1; step >= first; step--) {
                int kind = script.kinds[step];
                long inner = kind == CALL ? at(partBrings, script.values[step]) : inside[step];
                long brought = sort == TIME ? timeOf(kind, figures[step], inner) : roomOf(kind, figures[step], inner);
                whole[step] = brought;
                int parent = script.parents[step];
                if (parent == NONE) {
                    all = joined(sort, all, brought);
                } else if (isGoneInto(script, step, parent)) {
                    put(inside, parent, joined(sort, at(inside, parent), brought));
                }
            }
            put(partBrings, part, all);
        }

        private boolean isGoneInto(Script script, int step, int parent) {
            return at(script.kinds, parent) != IF || at(figures, parent) == at(script.blocks, step);
        }

        private static long joined(int sort, long x, long y) {
            return sort == TIME ? sum(x, y) : Math.max(x, y);
        }

        private static long timeOf(int kind, long figure, long inner) {
            switch (kind) {
                case SPEND:
                    return figure;
                case TIMES:
                    return product(figure, sum(inner, 1));
                case CALL:
                case IF:
                    return sum(inner, 1);
                default:
                    return inner;
            }
        }

        private static long roomOf(int kind, long figure, long inner) {
            switch (kind) {
                case SPEND:
                    return 0;
                case TIMES:
                    return figure == 0 ? 0 : inner;
                case HOLD:
                    return sum(figure, inner);
                default:
                    return inner;
            }
        }

        /** The TIME of all TURNS of a PLACE. */
        long goesTo(int place, Script script, int[] caps, int[] ask) {
            brings(TIME, script, caps, ask);
            fillWithNothing(partComings);
            put(partComings, script.defs, 1);
            for (int part = script.defs; part >= 0; part--) {
                countComings(script, part);
            }
            int step = at(script.placeSteps, place);
            return product(at(comings, step), at(whole, step));
        }

        private void countComings(Script script, int part) {
            int behind = at(script.partStarts, part + 1);
            for (int step = Math.max(at(script.partStarts, part), 0); step < behind; step++) {
                int parent = at(script.parents, step);
                long often = parent == NONE ? at(partComings, part) : comingsWithin(script, step, parent);
                put(comings, step, often);
                if (at(script.kinds, step) == CALL) {
                    int called = at(script.values, step);
                    put(partComings, called, sum(at(partComings, called), often));
                }
            }
        }

        private long comingsWithin(Script script, int step, int parent) {
            if (at(script.kinds, parent) == TIMES) {
                return product(at(comings, parent), at(figures, parent));
            }
            return isGoneInto(script, step, parent) ? at(comings, parent) : 0;
        }
    }

    /** Keeps the ORDINARY asks, and finds NEEDS and BUDGETS by them. */
    private static final class Planner {
        private final Meter meter;
        private final Asks asks;
        private final int[] ordinaries = new int[MAX_ORDINARY * NAMES];
        int ordinaryCount = 0;
        private final int[] ordinaryAsk = new int[NAMES];
        private final long[] needs = new long[MAX_PLACES];
        private final int[] trialCaps = new int[MAX_PLACES];
        /** The ASKS that are above the bound without CAPS: with CAPS, no others can be. */
        private final int[] risky = new int[MAX_ASKS];
        private int riskyCount = 0;

        Planner(Meter meter, Asks asks) {
            this.meter = meter;
            this.asks = asks;
        }

        void addOrdinary(int a, int b, int c, int d) {
            putRow(ordinaries, ordinaryCount * NAMES, a, b, c, d);
            ordinaryCount++;
        }

        long needOf(Script script, int place) {
            int step = at(script.placeSteps, place);
            long most = 0;
            for (int i = 0; i < ordinaryCount && i < MAX_ORDINARY; i++) {
                copyRow(ordinaries, i * NAMES, ordinaryAsk);
                most = Math.max(most, script.amountOf(step, ordinaryAsk));
            }
            return most;
        }

        /** The PLACES of BUDGETS as bits; NONE if not even all keep it below the bound. */
        int fewest(Script script, long bound) {
            int able = findNeeds(script);
            findRisky(script, bound);
            // A CAP never makes an ASK's TIME greater, so where all together fail, any fewer fail too.
            if (!keepsBelow(script, bound, able)) {
                return NONE;
            }
            for (int many = 0; many <= script.places; many++) {
                for (int chosen = (1 << script.places) - 1; chosen >= 0; chosen--) {
                    boolean fits = Integer.bitCount(chosen) == many && (chosen & ~able) == 0;
                    if (fits && keepsBelow(script, bound, chosen)) {
                        return chosen;
                    }
                }
            }
            return NONE;
        }

        /** The bit of a PLACE. The first has the highest: of choices of as many, the first row is the greatest number. */
        private static int bitOf(Script script, int place) {
            return 1 << (script.places - 1 - place);
        }

        /** Which PLACES have a NEED that can be a CAP, as bits. */
        private int findNeeds(Script script) {
            int able = 0;
            for (int place = 0; place < script.places; place++) {
                long most = needOf(script, place);
                put(needs, place, most);
                if (most <= MAX_CAP) {
                    able |= bitOf(script, place);
                }
            }
            return able;
        }

        private void findRisky(Script script, long bound) {
            riskyCount = 0;
            fillWith(trialCaps, NONE);
            int total = asks.prepare(script);
            for (int i = 0; i < total && i < MAX_ASKS; i++) {
                asks.turnTo(i);
                if (meter.brings(TIME, script, trialCaps, asks.numbers) > bound) {
                    put(risky, riskyCount, i);
                    riskyCount++;
                }
            }
        }

        private boolean keepsBelow(Script script, long bound, int chosen) {
            capChosen(script, chosen, trialCaps);
            for (int i = 0; i < riskyCount && i < MAX_ASKS; i++) {
                int one = risky[i];
                asks.turnTo(one);
                if (meter.brings(TIME, script, trialCaps, asks.numbers) > bound) {
                    // To the front with it: what one choice fails by, the next most likely fails by too.
                    risky[i] = risky[0];
                    risky[0] = one;
                    return false;
                }
            }
            return true;
        }

        void capChosen(Script script, int chosen, int[] into) {
            fillWith(into, NONE);
            for (int place = 0; place < script.places; place++) {
                if ((chosen & bitOf(script, place)) != 0) {
                    put(into, place, (int) at(needs, place));
                }
            }
        }
    }

    /** Which locks are HELD AHEAD of which, and which are TANGLED. */
    private static final class Locks {
        /** For each lock the ones that it is HELD AHEAD of, as bits. */
        final int[] heldAhead = new int[LOCK_COUNT];
        int ledBack = 0;
        /** The locks that are come to in each part and what it calls, as bits. */
        private final int[] partLocks = new int[MAX_PARTS];
        private final int[] leadsTo = new int[LOCK_COUNT];

        void learn(Script script) {
            fillWith(heldAhead, 0);
            fillWith(partLocks, 0);
            for (int part = 0; part <= script.defs; part++) {
                learnPart(script, part);
            }
            for (int lock = 0; lock < LOCK_COUNT; lock++) {
                put(heldAhead, lock, at(heldAhead, lock) & ~(1 << lock));
            }
            findLedBack();
        }

        private void learnPart(Script script, int part) {
            int behind = at(script.partStarts, part + 1);
            for (int step = Math.max(at(script.partStarts, part), 0); step < behind; step++) {
                int comeTo = locksOf(script, step);
                put(partLocks, part, at(partLocks, part) | comeTo);
                holdAround(script, step, comeTo);
            }
        }

        private int locksOf(Script script, int step) {
            switch (at(script.kinds, step)) {
                case LOCK:
                    return 1 << at(script.values, step);
                case CALL:
                    return at(partLocks, at(script.values, step));
                default:
                    return 0;
            }
        }

        private void holdAround(Script script, int step, int comeTo) {
            int around = at(script.parents, step);
            for (int level = 0; level < MAX_OPEN && around != NONE; level++) {
                if (at(script.kinds, around) == LOCK) {
                    int lock = at(script.values, around);
                    put(heldAhead, lock, at(heldAhead, lock) | comeTo);
                }
                around = at(script.parents, around);
            }
        }

        private void findLedBack() {
            for (int lock = 0; lock < LOCK_COUNT; lock++) {
                put(leadsTo, lock, at(heldAhead, lock));
            }
            for (int over = 0; over < LOCK_COUNT; over++) {
                for (int lock = 0; lock < LOCK_COUNT; lock++) {
                    if ((at(leadsTo, lock) >> over & 1) == 1) {
                        put(leadsTo, lock, at(leadsTo, lock) | at(leadsTo, over));
                    }
                }
            }
            ledBack = 0;
            for (int lock = 0; lock < LOCK_COUNT; lock++) {
                ledBack |= at(leadsTo, lock) & 1 << lock;
            }
        }
    }

    /** All ASKS in their order, with SIZE and WEIGHT of their NAMES. */
    private static final class Asks {
        private final int[] sizes = new int[NAMES];
        private final int[] weights = new int[NAMES];
        private final int[] reach = new int[NAMES];
        final int[] numbers = new int[NAMES];

        Asks() {
            fillWith(sizes, MAX_SIZE);
            fillWith(weights, 1);
        }

        void describe(int which, int size, int weight) {
            put(sizes, which, size);
            put(weights, which, weight);
        }

        /**
         * How many ASKS are to be looked at. A NAME that the script does not use
         * stays 0: the ASKS with more of it bring the same, are as heavy at least
         * and come later.
         */
        int prepare(Script script) {
            int total = 1;
            for (int k = 0; k < NAMES; k++) {
                boolean used = (script.usedNames >> k & 1) == 1;
                put(reach, k, used ? at(sizes, k) : 0);
                total *= at(reach, k) + 1;
            }
            return total;
        }

        /** Makes the numbers those of the ASK that comes as i-th. */
        void turnTo(int i) {
            int rest = i;
            for (int k = NAMES - 1; k >= 0; k--) {
                int choices = at(reach, k) + 1;
                if (choices > 0) {
                    put(numbers, k, rest % choices);
                    rest /= choices;
                }
            }
        }

        int weightOf(int i) {
            turnTo(i);
            int weight = 0;
            for (int k = 0; k < NAMES; k++) {
                weight += at(numbers, k) * at(weights, k);
            }
            return weight;
        }
    }
}
