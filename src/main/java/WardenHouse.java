import java.util.Arrays;

/**
 * A house of guards: a policy grants rights to places in a tree, modules come from such places,
 * and a right that is asked for must be had by each frame that leads to where it is asked for.
 */
public final class WardenHouse {
    public static final int NONE = -1;

    private static final int TAPE_ROOM = 3000;
    private static final int FEED_BYTES = 20;

    private static final int MAX_GRANTS = 8;
    private static final int MAX_RIGHTS = 8;
    private static final int MAX_MODULES = 8;
    private static final int MAX_FIELDS = 4;
    private static final int MAX_METHODS = 12;
    private static final int MAX_UNITS = 60;
    private static final int MAX_LIMITS = 12;
    private static final int MAX_ASKINGS = 24;
    private static final int MAX_VARIABLES = 12;
    private static final int MAX_PARAMETERS = 3;
    private static final int MAX_PARTS = 400;
    private static final int MAX_DEPTH = 24;
    private static final int MAX_FRAMES = 60;
    private static final int MAX_THREADS = 8;
    private static final int MAX_STEPS = 4000;
    private static final int MAX_THINGS = 2000;
    private static final int MAX_EVENTS = 200;
    private static final int PLACE_STEPS = 4;
    private static final int ASKED_STEPS = 5;

    // The bounds of loops whose true end is told by what they read: far above any need.
    private static final int MANY = 100_000_000;

    private static final int METHOD = 0;
    private static final int FUNCTION = 1;
    private static final int PRIV = 2;
    private static final int LIMITED_PRIV = 3;
    private static final int UNDER_UNIT = 4;

    private static final int FAULT_WORD = 1;
    private static final int FAULT_TWICE = 2;
    private static final int FAULT_UNKNOWN = 3;
    private static final int FAULT_MANY = 4;
    private static final int FAULT_TAIL = 5;

    private static final int DO_NUMBER = 0;
    private static final int DO_NONE = 1;
    private static final int DO_GET = 2;
    private static final int DO_PUT = 3;
    private static final int DO_NEW = 4;
    private static final int DO_READ = 5;
    private static final int DO_WRITE = 6;
    private static final int DO_SEND = 7;
    private static final int DO_APPLY = 8;
    private static final int DO_FUN = 9;
    private static final int DO_PART = 10;
    private static final int DO_ADD = 11;
    private static final int DO_SUBTRACT = 12;
    private static final int DO_MULTIPLY = 13;
    private static final int DO_LESS = 14;
    private static final int DO_SAME = 15;
    private static final int DO_DROP = 16;
    private static final int DO_GO = 17;
    private static final int DO_ZERO = 18;
    private static final int DO_TRY = 19;
    private static final int DO_TRIED = 20;
    private static final int DO_OUT = 21;
    private static final int DO_FAIL = 22;
    private static final int DO_SPAWN = 23;
    private static final int DO_WAIT = 24;
    private static final int DO_CHECK = 25;
    private static final int DO_ABLE = 26;
    private static final int DO_CTX = 27;
    private static final int DO_BACK = 28;
    private static final int DO_MEET = 30;
    private static final int DO_OWN = 31;
    private static final int DO_LIMITED = 32;
    private static final int DO_BOTH = 33;
    private static final int HANDED = 64;
    // Stands in scripts alone: where a jump goes to, without a byte of its own.
    private static final int LABEL = 100;

    // How many numbers follow the byte of each instruction 0 .. 28.
    private static final int[] OPERANDS = {
        1, 0, 1, 1, 1, 1, 1, 2, 1, 1, 1, 0, 0, 0, 0, 0, 0, 1, 1, 1, 0, 0, 0, 0, 0, 1, 1, 0, 0
    };

    private static final int EVENT_OUT = 0;
    private static final int EVENT_CHECK = 1;
    private static final int EVENT_FAILURE = 2;

    private final byte[] tape;
    private int fed;
    private final Words words;
    private final Policy policy;
    private final Plan plan;
    private final Reader reader;
    private final Survey survey;
    private final Machine machine;
    private final Right heard;
    private final Right asked;
    private boolean planned;
    private boolean asking;

    public WardenHouse() {
        tape = new byte[TAPE_ROOM];
        words = new Words();
        policy = new Policy();
        plan = new Plan(policy);
        reader = new Reader(words, plan, policy);
        survey = new Survey(plan);
        machine = new Machine(plan, policy);
        heard = new Right();
        asked = new Right();
    }

    public boolean feed(int a, int b, int c, int d, int e) {
        if (fed > TAPE_ROOM - FEED_BYTES) {
            return false;
        }
        putBytes(a);
        putBytes(b);
        putBytes(c);
        putBytes(d);
        putBytes(e);
        return true;
    }

    private void putBytes(int number) {
        for (int shift = 24; shift >= 0 && fed < TAPE_ROOM; shift -= 8) {
            tape[fed] = (byte) (number >>> shift);
            fed++;
        }
    }

    public boolean end(int n) {
        if (n < 0 || n > fed) {
            return false;
        }
        fed = n;
        return true;
    }

    public int program() throws IllegalArgumentException {
        int length = fed;
        fed = 0;
        planned = false;
        machine.forget();
        survey.forget();
        words.begin(tape, length, PLACE_STEPS);
        reader.readGrants();
        for (int m = 0; m <= MAX_MODULES && reader.hasModule(); m++) {
            reader.readModule();
        }
        plan.settleGroups();
        survey.findNeeds();
        plan.writeCode();
        planned = true;
        return plan.unitCount;
    }

    public int fault(int what) {
        if (what == 0) {
            return reader.faultKind;
        }
        return what == 1 ? reader.faultPlace : NONE;
    }

    public int count(int what) {
        if (what < 0 || what > 9) {
            return NONE;
        }
        if (what == 9) {
            return fed;
        }
        return planned ? plan.sizeOf(what) : 0;
    }

    private boolean hasUnit(int u) {
        return planned && u >= 0 && u < plan.unitCount;
    }

    public int unit(int u, int what) {
        return hasUnit(u) ? plan.unitAt(u).tell(what) : NONE;
    }

    public int code(int u, boolean rewritten, int i) {
        if (!hasUnit(u)) {
            return NONE;
        }
        Unit unit = plan.unitAt(u);
        Row bytes = rewritten ? unit.rewritten : unit.plain;
        return i >= 0 && i < bytes.size ? bytes.at(i) : NONE;
    }

    public int number(int k) {
        return planned ? plan.numberAt(k) : 0;
    }

    public int domain(int module) {
        return planned && module >= 0 && module < plan.moduleCount ? policy.domainOf(module) : NONE;
    }

    public boolean asks() {
        int length = fed;
        fed = 0;
        words.begin(tape, length, ASKED_STEPS);
        if (words.kind != Words.NAME) {
            return false;
        }
        long kind = words.value;
        words.advance();
        if (words.kind != Words.PATTERN || words.hasTail()) {
            return false;
        }
        words.copyPattern(heard);
        words.advance();
        if (words.kind != Words.END) {
            return false;
        }
        asked.take(heard);
        asked.kind = kind;
        asking = true;
        survey.forget();
        return true;
    }

    public int has(int k, boolean limit) {
        if (!planned || !asking || k < 0 || k >= (limit ? policy.limitCount : policy.domainCount)) {
            return NONE;
        }
        return policy.holders(asked) >>> (limit ? MAX_MODULES + k : k) & 1;
    }

    public int may(int u) {
        if (!asking || !hasUnit(u)) {
            return NONE;
        }
        if (!survey.done) {
            survey.findMay(policy.holders(asked));
        }
        return survey.mayOf(u);
    }

    public int run(int u, int seed, int steps, boolean rewritten)
            throws IllegalStateException, IllegalArgumentException {
        if (!planned) {
            throw new IllegalStateException("there is no program");
        }
        if (!hasUnit(u) || steps < 1 || steps > MAX_STEPS) {
            throw new IllegalArgumentException("no such unit, or no such number of steps");
        }
        Unit unit = plan.unitAt(u);
        if (unit.sort != METHOD || unit.parameters != 0) {
            throw new IllegalArgumentException("the unit is no method without parameters");
        }
        machine.prepare(unit, seed, steps, rewritten);
        return machine.goOn();
    }

    public int result(int what) {
        return machine.ran ? machine.tell(what) : NONE;
    }

    public int event(int k, int what) {
        return machine.ran ? machine.tellEvent(k, what) : NONE;
    }

    public int thread(int t, int what) {
        return machine.ran ? machine.tellThread(t, what) : NONE;
    }

    public int context(int k, int i) {
        return machine.ran ? machine.tellContext(k, i) : NONE;
    }

    /** Numbers in a row that grows; all that is read or cut is tested here. */
    private static final class Row {
        private static final int MOST = 1 << 20;

        private long[] cells;
        int size;

        Row(int room) {
            cells = new long[room > 0 ? room : 1];
        }

        void add(long cell) {
            if (size >= MOST) {
                return;
            }
            if (size >= cells.length) {
                cells = Arrays.copyOf(cells, size * 2);
            }
            cells[size] = cell;
            size++;
        }

        long get(int i) {
            return i >= 0 && i < size ? cells[i] : 0L;
        }

        int at(int i) {
            return i >= 0 && i < size ? (int) cells[i] : 0;
        }

        void set(int i, long cell) {
            if (i >= 0 && i < size) {
                cells[i] = cell;
            }
        }

        long pop() {
            if (size <= 0) {
                return 0L;
            }
            size--;
            return cells[size];
        }

        void cut(int length) {
            if (length >= 0 && length < size) {
                size = length;
            }
        }

        void addPair(int number) {
            add(number >>> 8 & 255);
            add(number & 255);
        }

        int pairAt(int i) {
            return at(i) << 8 | at(i + 1);
        }
    }

    /** A KIND and a PATTERN; a PLACE is one without a tail. */
    private static final class Right {
        static final int NO_TAIL = 0;
        static final int STAR_TAIL = 1;
        static final int DASH_TAIL = 2;

        long kind;
        final long[] steps;
        int count;
        int tail;

        Right() {
            steps = new long[ASKED_STEPS];
        }

        void take(Right other) {
            kind = other.kind;
            tail = other.tail;
            count = other.count;
            for (int i = 0; i < ASKED_STEPS; i++) {
                steps[i] = other.steps[i];
            }
        }

        void addStep(long step) {
            if (count >= 0 && count < ASKED_STEPS) {
                steps[count] = step;
                count++;
            }
        }

        void addDigits(int number) {
            long step = 0L;
            for (int power = 100; power > 0; power /= 10) {
                if (number >= power || power == 1) {
                    step = Words.codeWith(step, '0' + number / power % 10);
                }
            }
            addStep(step);
        }

        boolean covers(Right place) {
            int more = place.count - count;
            boolean fits = tail == NO_TAIL ? more == 0 : tail == STAR_TAIL ? more == 1 : more >= 1;
            for (int i = 0; fits && i < count && i < ASKED_STEPS; i++) {
                fits = steps[i] == place.steps[i];
            }
            return fits;
        }
    }

    /** The WORDS of a text: all are found first, then looked at one at a time. */
    private static final class Words {
        static final int END = 0;
        static final int BAD = 1;
        static final int NAME = 2;
        static final int NUMBER = 3;
        static final int PATTERN = 4;
        // A sign of one byte is its own kind.
        static final int ASSIGN = 200;
        static final int SAME = 201;
        static final int GRANT = 210;
        static final int MODULE = 211;
        static final int FIELD = 212;
        static final int LET = 213;
        static final int IN = 214;
        static final int IF = 215;
        static final int THEN = 216;
        static final int ELSE = 217;
        static final int TRY = 218;
        static final int CATCH = 219;
        static final int PRIV_WORD = 220;
        static final int UNDER = 221;
        static final int FUN = 222;
        static final int NEW = 223;
        static final int NONE_WORD = 224;
        static final int SELF = 225;
        static final int CTX = 226;
        static final int CHECK = 227;
        static final int ABLE = 228;
        static final int OUT = 229;
        static final int SPAWN = 230;
        static final int WAIT = 231;
        static final int FAIL = 232;

        // As they are numbered from GRANT on, each with a blank behind it.
        private static final String KEYWORDS =
            "grant module field let in if then else try catch priv under fun new none self ctx check able out spawn wait fail ";
        private static final int KEYWORD_COUNT = 23;
        private static final String SIGNS = "{}()[],;:=.+-*<";
        private static final int NAME_BYTES = 8;
        private static final int STEP_BYTES = 6;
        private static final long MAX_NUMBER = 2147483647L;
        private static final int WORD_CELLS = 3;

        private final long[] keywords;
        private final Row found;
        private final Row patterns;
        private byte[] text;
        private int length;
        private int mostSteps;
        private int place;
        private int next;
        int kind;
        int at;
        long value;

        Words() {
            keywords = new long[KEYWORD_COUNT];
            found = new Row(WORD_CELLS * 64);
            patterns = new Row(64);
            text = new byte[1];
            int count = 0;
            long code = 0L;
            for (int i = 0; i < KEYWORDS.length() && count < KEYWORD_COUNT; i++) {
                if (KEYWORDS.charAt(i) == ' ') {
                    keywords[count] = code;
                    count++;
                    code = 0L;
                } else {
                    code = codeWith(code, KEYWORDS.charAt(i));
                }
            }
        }

        // Names and STEPS are kept as numbers, six bits a letter or digit, none of them 0.
        static long codeWith(long code, int c) {
            return code << 6 | (c >= 'a' ? c - 'a' + 1 : c - '0' + 27);
        }

        private static boolean isLetter(int c) {
            return c >= 'a' && c <= 'z';
        }

        private static boolean isDigit(int c) {
            return c >= '0' && c <= '9';
        }

        void begin(byte[] bytes, int n, int steps) {
            text = bytes;
            length = n;
            mostSteps = steps;
            place = 0;
            next = 0;
            found.cut(0);
            patterns.cut(0);
            boolean more = true;
            for (int i = 0; more && i <= n; i++) {
                more = findWord();
            }
            advance();
        }

        void advance() {
            kind = found.at(next * WORD_CELLS);
            at = found.at(next * WORD_CELLS + 1);
            value = found.get(next * WORD_CELLS + 2);
            next++;
        }

        boolean hasTail() {
            return kind == PATTERN && patterns.at((int) value + 1) != Right.NO_TAIL;
        }

        void copyPattern(Right target) {
            int from = (int) value;
            target.count = 0;
            target.tail = patterns.at(from + 1);
            for (int i = 0; i < patterns.at(from); i++) {
                target.addStep(patterns.get(from + 2 + i));
            }
        }

        boolean beginsPrefix() {
            if (kind == NAME || kind == NUMBER || kind == '{' || kind == '(') {
                return true;
            }
            return kind >= PRIV_WORD && kind <= FAIL;
        }

        boolean beginsExpression() {
            return kind == LET || kind == IF || kind == TRY || beginsPrefix();
        }

        // NONE behind the end, so that what stands there is like no byte.
        private int byteAt(int i) {
            return i >= 0 && i < length && i < text.length ? text[i] & 255 : NONE;
        }

        private boolean stepCharAt(int i) {
            int c = byteAt(i);
            return isLetter(c) || isDigit(c);
        }

        private void addWord(int itsKind, int itsPlace, long itsValue) {
            found.add(itsKind);
            found.add(itsPlace);
            found.add(itsValue);
        }

        // False behind the last one that matters: nothing is read behind what is no word.
        private boolean findWord() {
            skipBlanks();
            int from = place;
            int c = byteAt(place);
            if (c == NONE) {
                addWord(END, from, 0L);
            } else if (isLetter(c)) {
                findName();
            } else if (isDigit(c)) {
                findNumber();
            } else if (c == '/') {
                findPattern();
            } else {
                findSign(c);
            }
            int last = found.at(found.size - WORD_CELLS);
            return last != END && last != BAD;
        }

        private void skipBlanks() {
            boolean comment = false;
            while (place < length) {
                int c = byteAt(place);
                comment = c == '#' || comment && c != '\n';
                if (!comment && c != ' ' && c != '\n') {
                    return;
                }
                place++;
            }
        }

        private void findName() {
            int from = place;
            long code = 0L;
            while (place < length && stepCharAt(place)) {
                code = codeWith(code, byteAt(place));
                place++;
            }
            int itsKind = NAME;
            for (int i = 0; i < KEYWORD_COUNT; i++) {
                itsKind = keywords[i] == code ? GRANT + i : itsKind;
            }
            addWord(place - from > NAME_BYTES ? BAD : itsKind, from, code);
        }

        private void findNumber() {
            int from = place;
            long number = 0L;
            while (place < length && isDigit(byteAt(place))) {
                if (number <= MAX_NUMBER) {
                    number = number * 10L + (byteAt(place) - '0');
                }
                place++;
            }
            addWord(number > MAX_NUMBER ? BAD : NUMBER, from, number);
        }

        // A pattern is kept as how many STEPS it has, its tail, and the STEPS.
        private void findPattern() {
            int from = place;
            int kept = patterns.size;
            int count = 0;
            boolean good = true;
            patterns.add(0L);
            patterns.add(Right.NO_TAIL);
            while (count < TAPE_ROOM && byteAt(place) == '/' && stepCharAt(place + 1)) {
                count++;
                good = findStep() && good;
            }
            patterns.set(kept, count);
            int behind = byteAt(place + 1);
            if (byteAt(place) == '/' && (behind == '*' || behind == '-')) {
                patterns.set(kept + 1, behind == '*' ? Right.STAR_TAIL : Right.DASH_TAIL);
                place += 2;
            } else if (count == 0) {
                good = false;
            }
            addWord(good && count <= mostSteps ? PATTERN : BAD, from, kept);
        }

        private boolean findStep() {
            int from = place + 1;
            long code = 0L;
            place = from;
            while (place < length && stepCharAt(place)) {
                code = codeWith(code, byteAt(place));
                place++;
            }
            patterns.add(code);
            return place - from <= STEP_BYTES;
        }

        private void findSign(int c) {
            int from = place;
            int itsKind = c < 127 && SIGNS.indexOf((char) c) >= 0 ? c : BAD;
            place++;
            if (byteAt(place) == '=' && (c == ':' || c == '=')) {
                itsKind = c == ':' ? ASSIGN : SAME;
                place++;
            }
            addWord(itsKind, from, 0L);
        }
    }

    /** GRANTs, LIMITS, DOMAINS and ASKINGS: who has what is asked for. */
    private static final class Policy {
        private static final int LIMIT_BASE = MAX_GRANTS * MAX_RIGHTS;
        private static final int RIGHT_ROOM = LIMIT_BASE + MAX_LIMITS * MAX_RIGHTS;

        private final Right[] grants;
        private final Right[] rights;
        private final int[] grantSizes;
        private final int[] limitSizes;
        private final int[] domainSets;
        private final int[] moduleDomains;
        private final Right[] askings;
        private final boolean[] askingIndexed;
        private final int[] askingHolders;
        final Right goal;
        int grantCount;
        int limitCount;
        int domainCount;
        int askingCount;

        Policy() {
            grants = rightsOf(MAX_GRANTS);
            rights = rightsOf(RIGHT_ROOM);
            grantSizes = new int[MAX_GRANTS];
            limitSizes = new int[MAX_LIMITS];
            domainSets = new int[MAX_MODULES];
            moduleDomains = new int[MAX_MODULES];
            askings = rightsOf(MAX_ASKINGS);
            askingIndexed = new boolean[MAX_ASKINGS];
            askingHolders = new int[MAX_ASKINGS];
            goal = new Right();
        }

        private static Right[] rightsOf(int n) {
            Right[] made = new Right[n > 0 ? n : 1];
            for (int i = 0; i < made.length; i++) {
                made[i] = new Right();
            }
            return made;
        }

        void clear() {
            grantCount = 0;
            limitCount = 0;
            domainCount = 0;
            askingCount = 0;
        }

        void addGrant(Right pattern) {
            if (grantCount < MAX_GRANTS) {
                grants[grantCount].take(pattern);
                grantSizes[grantCount] = 0;
                grantCount++;
            }
        }

        void addLimit() {
            if (limitCount < MAX_LIMITS) {
                limitSizes[limitCount] = 0;
                limitCount++;
            }
        }

        void addGrantRight(Right right) {
            int g = grantCount - 1;
            if (g >= 0 && grantSizes[g] < MAX_RIGHTS) {
                setRight(g * MAX_RIGHTS + grantSizes[g], right);
                grantSizes[g]++;
            }
        }

        void addLimitRight(Right right) {
            int l = limitCount - 1;
            if (l >= 0 && limitSizes[l] < MAX_RIGHTS) {
                setRight(LIMIT_BASE + l * MAX_RIGHTS + limitSizes[l], right);
                limitSizes[l]++;
            }
        }

        private void setRight(int i, Right right) {
            if (i >= 0 && i < RIGHT_ROOM) {
                rights[i].take(right);
            }
        }

        void addAsking() {
            if (askingCount < MAX_ASKINGS) {
                askingIndexed[askingCount] = false;
                askingCount++;
            }
        }

        void setAsking(int a, Right right) {
            if (a >= 0 && a < askingCount) {
                askings[a].take(right);
            }
        }

        void setIndexed(int a) {
            if (a >= 0 && a < askingCount) {
                askingIndexed[a] = true;
            }
        }

        boolean isIndexed(int a) {
            return a >= 0 && a < askingCount && askingIndexed[a];
        }

        void placeModule(int module, Right place) {
            if (module < 0 || module >= MAX_MODULES) {
                return;
            }
            int set = 0;
            for (int g = 0; g < grantCount; g++) {
                set |= grants[g].covers(place) ? 1 << g : 0;
            }
            int d = 0;
            while (d < domainCount && domainSets[d] != set) {
                d++;
            }
            if (d == domainCount && d < MAX_MODULES) {
                domainSets[d] = set;
                domainCount++;
            }
            moduleDomains[module] = d;
        }

        int domainOf(int module) {
            return module >= 0 && module < MAX_MODULES ? moduleDomains[module] : 0;
        }

        // Bits 0 .. 7 are DOMAINS, 8 .. 19 LIMITS, as in the PRODUCTS of a CONTEXT.
        int holders(Right wanted) {
            int granting = 0;
            for (int g = 0; g < grantCount; g++) {
                granting |= anyHas(g * MAX_RIGHTS, grantSizes[g], wanted) ? 1 << g : 0;
            }
            int mask = 0;
            for (int d = 0; d < domainCount; d++) {
                mask |= (domainSets[d] & granting) != 0 ? 1 << d : 0;
            }
            for (int l = 0; l < limitCount; l++) {
                mask |= anyHas(LIMIT_BASE + l * MAX_RIGHTS, limitSizes[l], wanted) ? 1 << MAX_MODULES + l : 0;
            }
            return mask;
        }

        private boolean anyHas(int from, int size, Right wanted) {
            boolean found = false;
            for (int i = from; !found && i < from + size && i < RIGHT_ROOM; i++) {
                found = rights[i].kind == wanted.kind && rights[i].covers(wanted);
            }
            return found;
        }

        // What stays the same in all runs is worked out once.
        void settleAskings() {
            for (int a = 0; a < askingCount; a++) {
                if (!askingIndexed[a]) {
                    askingHolders[a] = holders(askings[a]);
                }
            }
        }

        int holdersOf(int a) {
            return a >= 0 && a < askingCount ? askingHolders[a] : 0;
        }

        // The goal is what an ASKING with [ E ] asks for.
        void aim(int a, int index) {
            if (a >= 0 && a < askingCount) {
                goal.take(askings[a]);
                goal.addDigits(index);
            }
        }
    }

    /** One UNIT: what is known of it, its script (as read, with variables by key) and its CODE. */
    private static final class Unit {
        private static final int MAX_CAPTURED = MAX_VARIABLES + 1;
        private static final int KEY_ROOM = 1024;
        private static final int SCRIPT_CELLS = 3;

        int number;
        int sort;
        int module;
        int domain;
        int where;
        long name;
        int parameters;
        int parent;
        int limit;
        int group;
        int own;
        int captured;
        final int[] captures;
        boolean needs;
        int labels;
        final Row script;
        final Row plain;
        final Row rewritten;

        Unit() {
            captures = new int[MAX_CAPTURED];
            script = new Row(24);
            plain = new Row(16);
            rewritten = new Row(16);
        }

        void open(int itsNumber, int itsSort, int itsModule, int place) {
            number = itsNumber;
            sort = itsSort;
            module = itsModule;
            where = place;
            name = 0L;
            parameters = 0;
            limit = NONE;
            group = itsNumber;
            own = itsSort == METHOD ? 1 : 0;
            captured = 0;
            needs = false;
            labels = 0;
            script.size = 0;
        }

        // A key names a variable by the UNIT that it is of, as its LOCAL is not known till all is read.
        int ownKey(int index) {
            return number * KEY_ROOM + index;
        }

        static int ownerOf(int key) {
            return key / KEY_ROOM;
        }

        int addOwn() {
            int key = ownKey(own);
            own++;
            return key;
        }

        int addLabel() {
            labels++;
            return labels - 1;
        }

        void capture(int key) {
            boolean known = false;
            for (int i = 0; i < captured; i++) {
                known = known || captures[i] == key;
            }
            if (!known && captured < MAX_CAPTURED) {
                captures[captured] = key;
                captured++;
            }
        }

        private int captureIndex(int key) {
            for (int i = 0; i < captured; i++) {
                if (captures[i] == key) {
                    return i;
                }
            }
            return NONE;
        }

        int locals() {
            return captured + own;
        }

        private int localOf(int key) {
            return ownerOf(key) == number ? captured + key % KEY_ROOM : captureIndex(key);
        }

        void emit(int what, int a, int b) {
            script.add(what);
            script.add(a);
            script.add(b);
        }

        int length() {
            return script.size / SCRIPT_CELLS;
        }

        int what(int i) {
            return script.at(i * SCRIPT_CELLS);
        }

        int first(int i) {
            return script.at(i * SCRIPT_CELLS + 1);
        }

        int second(int i) {
            return script.at(i * SCRIPT_CELLS + 2);
        }

        // Written twice: where labels stand is known behind the first time, and the length is the same.
        void write(Plan plan, boolean anew, int[] places) {
            Row out = anew ? rewritten : plain;
            for (int time = 0; time < 2; time++) {
                out.cut(0);
                if (anew && needs) {
                    writeEntry(out);
                }
                for (int i = 0; i < length(); i++) {
                    writeOne(plan, out, i, places);
                }
            }
        }

        private void writeEntry(Row out) {
            int what = sort == PRIV ? DO_OWN : sort == LIMITED_PRIV ? DO_LIMITED : sort == UNDER_UNIT ? DO_BOTH : DO_MEET;
            out.add(what);
            out.addPair(domain);
            if (sort == LIMITED_PRIV) {
                out.addPair(limit);
            }
        }

        private void writeOne(Plan plan, Row out, int i, int[] places) {
            int what = what(i);
            int a = first(i);
            boolean handed = out == rewritten && needs && plan.handsContext(what, a, second(i));
            if (what == LABEL) {
                if (a >= 0 && a < places.length) {
                    places[a] = out.size;
                }
                return;
            }
            if (handed) {
                out.add(DO_GET);
                out.addPair(locals());
            }
            if (what == DO_CTX && handed) {
                return;
            }
            out.add(handed ? what + HANDED : what);
            int operands = what >= 0 && what < OPERANDS.length ? OPERANDS[what] : 0;
            if (operands > 0) {
                out.addPair(operandOf(what, a, places));
            }
            if (operands > 1) {
                out.addPair(second(i));
            }
        }

        private int operandOf(int what, int a, int[] places) {
            if (what == DO_GET || what == DO_PUT) {
                return localOf(a);
            }
            if (what == DO_GO || what == DO_ZERO || what == DO_TRY) {
                return a >= 0 && a < places.length ? places[a] : 0;
            }
            return a;
        }

        int tell(int what) {
            switch (what) {
                case 0: return sort;
                case 1: return module;
                case 2: return where;
                case 3: return parameters;
                case 4: return captured;
                case 5: return locals();
                case 6: return needs ? 1 : 0;
                case 7: return plain.size;
                case 8: return rewritten.size;
                default: return NONE;
            }
        }
    }

    /** The program as it was read: modules, UNITS, NUMBERs and NAMES. */
    private static final class Plan {
        private final Policy policy;
        private final Unit[] units;
        int unitCount;
        private final long[] moduleNames;
        private final int[] supers;
        private final long[] fieldNames;
        private final int[] fieldCounts;
        private final int[] fieldBases;
        private final int[] methods;
        private final int[] methodCounts;
        int moduleCount;
        private final int[] numbers;
        private int numberCount;
        private final long[] names;
        private int nameCount;
        private final int[] places;

        Plan(Policy itsPolicy) {
            policy = itsPolicy;
            units = new Unit[MAX_UNITS];
            for (int u = 0; u < MAX_UNITS; u++) {
                units[u] = new Unit();
            }
            moduleNames = new long[MAX_MODULES];
            supers = new int[MAX_MODULES];
            fieldNames = new long[MAX_MODULES * MAX_FIELDS];
            fieldCounts = new int[MAX_MODULES];
            fieldBases = new int[MAX_MODULES];
            methods = new int[MAX_MODULES * MAX_METHODS];
            methodCounts = new int[MAX_MODULES];
            numbers = new int[MAX_PARTS];
            names = new long[MAX_PARTS];
            places = new int[MAX_PARTS];
        }

        void clear() {
            policy.clear();
            unitCount = 0;
            moduleCount = 0;
            numberCount = 0;
            nameCount = 0;
        }

        Unit unitAt(int u) {
            return units[u >= 0 && u < MAX_UNITS ? u : 0];
        }

        Unit addUnit(int sort, int module, int place) {
            int number = unitCount < MAX_UNITS ? unitCount : MAX_UNITS - 1;
            Unit made = units[number];
            made.open(number, sort, module, place);
            made.domain = policy.domainOf(module);
            unitCount = number + 1;
            return made;
        }

        int addModule(long name) {
            int m = moduleCount < MAX_MODULES ? moduleCount : MAX_MODULES - 1;
            moduleNames[m] = name;
            supers[m] = NONE;
            fieldCounts[m] = 0;
            fieldBases[m] = 0;
            methodCounts[m] = 0;
            moduleCount = m + 1;
            return m;
        }

        int findModule(long name) {
            for (int m = 0; m < moduleCount; m++) {
                if (moduleNames[m] == name) {
                    return m;
                }
            }
            return NONE;
        }

        private boolean isModule(int m) {
            return m >= 0 && m < moduleCount;
        }

        void setSuper(int m, int above) {
            if (isModule(m) && isModule(above)) {
                supers[m] = above;
                fieldBases[m] = fieldTotal(above);
            }
        }

        int fieldCount(int m) {
            return isModule(m) ? fieldCounts[m] : 0;
        }

        int fieldTotal(int m) {
            return isModule(m) ? fieldBases[m] + fieldCounts[m] : 0;
        }

        void addField(int m, long name) {
            if (isModule(m) && fieldCounts[m] < MAX_FIELDS) {
                fieldNames[m * MAX_FIELDS + fieldCounts[m]] = name;
                fieldCounts[m]++;
            }
        }

        int fieldSlot(int module, long name) {
            int m = module;
            for (int k = 0; k < MAX_MODULES && isModule(m); k++) {
                for (int i = 0; i < fieldCounts[m]; i++) {
                    if (fieldNames[m * MAX_FIELDS + i] == name) {
                        return fieldBases[m] + i;
                    }
                }
                m = supers[m];
            }
            return NONE;
        }

        int methodCount(int m) {
            return isModule(m) ? methodCounts[m] : 0;
        }

        void addMethod(int m, int u) {
            if (isModule(m) && methodCounts[m] < MAX_METHODS) {
                methods[m * MAX_METHODS + methodCounts[m]] = u;
                methodCounts[m]++;
            }
        }

        int ownMethod(int m, long name, int parameters) {
            int count = m >= 0 && m < moduleCount ? methodCounts[m] : 0;
            for (int i = 0; i < count; i++) {
                int u = methods[m * MAX_METHODS + i];
                if (unitAt(u).name == name && unitAt(u).parameters == parameters) {
                    return u;
                }
            }
            return NONE;
        }

        int findMethod(int module, long name, int parameters) {
            int m = module;
            int found = NONE;
            for (int k = 0; k < MAX_MODULES && isModule(m) && found == NONE; k++) {
                found = ownMethod(m, name, parameters);
                m = supers[m];
            }
            return found;
        }

        int numberIndex(int number) {
            for (int k = 0; k < numberCount; k++) {
                if (numbers[k] == number) {
                    return k;
                }
            }
            if (numberCount < MAX_PARTS) {
                numbers[numberCount] = number;
                numberCount++;
            }
            return numberCount - 1;
        }

        int numberAt(int k) {
            return k >= 0 && k < numberCount ? numbers[k] : 0;
        }

        int nameIndex(long name) {
            for (int k = 0; k < nameCount; k++) {
                if (names[k] == name) {
                    return k;
                }
            }
            if (nameCount < MAX_PARTS) {
                names[nameCount] = name;
                nameCount++;
            }
            return nameCount - 1;
        }

        long nameAt(int k) {
            return k >= 0 && k < nameCount ? names[k] : 0L;
        }

        // A group goes by the number of its first UNIT; NONE if it has none.
        int groupOf(int sort, long name, int parameters) {
            for (int u = 0; u < unitCount; u++) {
                Unit unit = units[u];
                if (unit.sort == sort && unit.parameters == parameters && (sort == FUNCTION || unit.name == name)) {
                    return u;
                }
            }
            return NONE;
        }

        void settleGroups() {
            for (int u = 0; u < unitCount; u++) {
                Unit unit = units[u];
                boolean grouped = unit.sort == METHOD || unit.sort == FUNCTION;
                unit.group = grouped ? groupOf(unit.sort, unit.name, unit.parameters) : u;
            }
        }

        // The group whose frames an instruction begins; NONE if it begins none, or of a PART.
        int groupBegun(int what, int a, int b) {
            switch (what) {
                case DO_SEND: return groupOf(METHOD, nameAt(a), b);
                case DO_APPLY: return groupOf(FUNCTION, 0L, a);
                case DO_SPAWN: return groupOf(FUNCTION, 0L, 0);
                default: return NONE;
            }
        }

        // Whether the instruction works on the context of the frame in which it stands.
        boolean handsContext(int what, int a, int b) {
            if (what == DO_CHECK || what == DO_ABLE || what == DO_CTX) {
                return true;
            }
            if (what == DO_PART) {
                return unitAt(a).sort == LIMITED_PRIV && unitAt(a).needs;
            }
            int group = groupBegun(what, a, b);
            return group != NONE && unitAt(group).needs;
        }

        void writeCode() {
            policy.settleAskings();
            for (int u = 0; u < unitCount; u++) {
                units[u].write(this, false, places);
                units[u].write(this, true, places);
            }
        }

        private int needing() {
            int n = 0;
            for (int u = 0; u < unitCount; u++) {
                n += units[u].needs ? 1 : 0;
            }
            return n;
        }

        int sizeOf(int what) {
            switch (what) {
                case 0: return unitCount;
                case 1: return moduleCount;
                case 2: return policy.grantCount;
                case 3: return policy.domainCount;
                case 4: return policy.limitCount;
                case 5: return policy.askingCount;
                case 6: return needing();
                case 7: return numberCount;
                case 8: return nameCount;
                default: return NONE;
            }
        }
    }

    /** Reads a text word by word into the plan, up to the first FAULT. */
    private static final class Reader {
        private final Words words;
        private final Plan plan;
        private final Policy policy;
        private final Right pattern;
        private final long[] scopeNames;
        private final int[] scopeKeys;
        private int scopeCount;
        private Unit method;
        private Unit now;
        private int module;
        private int parts;
        int faultKind;
        int faultPlace;

        Reader(Words itsWords, Plan itsPlan, Policy itsPolicy) {
            words = itsWords;
            plan = itsPlan;
            policy = itsPolicy;
            pattern = new Right();
            scopeNames = new long[MAX_VARIABLES];
            scopeKeys = new int[MAX_VARIABLES];
            method = itsPlan.unitAt(0);
            now = method;
            faultPlace = NONE;
        }

        void readGrants() {
            plan.clear();
            parts = 0;
            scopeCount = 0;
            faultKind = 0;
            faultPlace = NONE;
            for (int g = 0; g <= MAX_GRANTS && words.kind == Words.GRANT; g++) {
                room(g < MAX_GRANTS);
                readGrant();
            }
        }

        // Behind the GRANTs, and behind each module.
        boolean hasModule() {
            boolean more = words.kind == Words.MODULE;
            need(more || words.kind == Words.END && plan.moduleCount > 0);
            return more;
        }

        private void refuse(int kind, int place) {
            faultKind = kind;
            faultPlace = place;
            throw new IllegalArgumentException("the text has a fault");
        }

        private void need(boolean stands) {
            if (!stands) {
                refuse(FAULT_WORD, words.at);
            }
        }

        private void room(boolean left) {
            if (!left) {
                refuse(FAULT_MANY, words.at);
            }
        }

        private void pass(int kind) {
            need(words.kind == kind);
            words.advance();
        }

        private void needName() {
            if (words.kind != Words.NAME) {
                refuse(FAULT_WORD, words.at);
            }
        }

        private void takePattern(boolean place) {
            need(words.kind == Words.PATTERN);
            if (place && words.hasTail()) {
                refuse(FAULT_TAIL, words.at);
            }
            words.copyPattern(pattern);
            words.advance();
        }

        private void readGrant() {
            words.advance();
            takePattern(false);
            policy.addGrant(pattern);
            pass('{');
            for (int i = 0; i <= MAX_RIGHTS && words.kind == Words.NAME; i++) {
                readRight(i, false);
                pass(';');
            }
            pass('}');
        }

        private void readRight(int before, boolean limit) {
            needName();
            room(before < MAX_RIGHTS);
            pattern.kind = words.value;
            words.advance();
            takePattern(false);
            if (limit) {
                policy.addLimitRight(pattern);
            } else {
                policy.addGrantRight(pattern);
            }
        }

        void readModule() {
            words.advance();
            needName();
            room(plan.moduleCount < MAX_MODULES);
            if (plan.findModule(words.value) != NONE) {
                refuse(FAULT_TWICE, words.at);
            }
            module = plan.addModule(words.value);
            words.advance();
            takePattern(true);
            policy.placeModule(module, pattern);
            if (words.kind == ':') {
                readSuper();
            }
            pass('{');
            for (int i = 0; i <= MAX_FIELDS && words.kind == Words.FIELD; i++) {
                readField();
            }
            for (int i = 0; i <= MAX_METHODS && words.kind == Words.NAME; i++) {
                readMethod();
            }
            pass('}');
        }

        private void readSuper() {
            words.advance();
            needName();
            int above = plan.findModule(words.value);
            if (above == NONE || above == module) {
                refuse(FAULT_UNKNOWN, words.at);
            }
            plan.setSuper(module, above);
            words.advance();
        }

        private void readField() {
            words.advance();
            needName();
            room(plan.fieldCount(module) < MAX_FIELDS);
            if (plan.fieldSlot(module, words.value) != NONE) {
                refuse(FAULT_TWICE, words.at);
            }
            plan.addField(module, words.value);
            words.advance();
            pass(';');
        }

        private void readMethod() {
            room(plan.methodCount(module) < MAX_METHODS);
            method = openUnit(METHOD);
            now = method;
            long name = words.value;
            words.advance();
            pass('(');
            readParameters();
            need(words.kind == ')');
            if (plan.ownMethod(module, name, method.parameters) != NONE) {
                refuse(FAULT_TWICE, method.where);
            }
            method.name = name;
            plan.addMethod(module, method.number);
            words.advance();
            pass('=');
            readExpression(1);
            method.emit(DO_BACK, 0, 0);
            scopeCount = 0;
            pass(';');
        }

        private Unit openUnit(int sort) {
            room(plan.unitCount < MAX_UNITS);
            Unit made = plan.addUnit(sort, module, words.at);
            made.parent = sort == METHOD ? made.number : now.number;
            return made;
        }

        // What the inner UNIT has captured is known only now, so it is got behind all of it.
        private void closeInner(Unit inner, int what) {
            inner.emit(DO_BACK, 0, 0);
            now = plan.unitAt(inner.parent);
            for (int i = 0; i < inner.captured; i++) {
                now.emit(DO_GET, inner.captures[i], 0);
            }
            now.emit(what, inner.number, 0);
        }

        private void readParameters() {
            int first = scopeCount;
            boolean more = words.kind != ')';
            for (int i = 0; more && i <= MAX_PARAMETERS; i++) {
                needName();
                room(i < MAX_PARAMETERS && scopeCount < MAX_VARIABLES);
                if (findVariable(words.value) >= first) {
                    refuse(FAULT_TWICE, words.at);
                }
                declare(words.value, now.addOwn());
                now.parameters++;
                words.advance();
                more = words.kind == ',';
                if (more) {
                    words.advance();
                }
            }
        }

        private void declare(long name, int key) {
            if (scopeCount < MAX_VARIABLES) {
                scopeNames[scopeCount] = name;
                scopeKeys[scopeCount] = key;
                scopeCount++;
            }
        }

        private int findVariable(long name) {
            int i = scopeCount - 1;
            while (i >= 0 && scopeNames[i] != name) {
                i--;
            }
            return i;
        }

        private void part() {
            room(parts < MAX_PARTS);
            parts++;
        }

        private void getVariable(int key) {
            Unit unit = now;
            int owner = Unit.ownerOf(key);
            for (int i = 0; i < MAX_UNITS && unit.number != owner; i++) {
                unit.capture(key);
                unit = plan.unitAt(unit.parent);
            }
            now.emit(DO_GET, key, 0);
        }

        private void readExpression(int depth) {
            need(words.beginsExpression());
            room(depth <= MAX_DEPTH);
            switch (words.kind) {
                case Words.LET:
                    readLet(depth);
                    break;
                case Words.IF:
                    readIf(depth);
                    break;
                case Words.TRY:
                    readTry(depth);
                    break;
                default:
                    readComparison(depth);
                    break;
            }
        }

        private void readLet(int depth) {
            part();
            int key = now.addOwn();
            words.advance();
            needName();
            room(scopeCount < MAX_VARIABLES);
            long name = words.value;
            words.advance();
            pass('=');
            readExpression(depth + 1);
            pass(Words.IN);
            readBound(name, key, depth);
        }

        // The E in which the variable of a let or a catch is one.
        private void readBound(long name, int key, int depth) {
            now.emit(DO_PUT, key, 0);
            declare(name, key);
            readExpression(depth + 1);
            scopeCount--;
        }

        private void readIf(int depth) {
            part();
            int otherwise = now.addLabel();
            int behind = now.addLabel();
            words.advance();
            readExpression(depth + 1);
            now.emit(DO_ZERO, otherwise, 0);
            pass(Words.THEN);
            readExpression(depth + 1);
            now.emit(DO_GO, behind, 0);
            now.emit(LABEL, otherwise, 0);
            pass(Words.ELSE);
            readExpression(depth + 1);
            now.emit(LABEL, behind, 0);
        }

        private void readTry(int depth) {
            part();
            int caught = now.addLabel();
            int behind = now.addLabel();
            now.emit(DO_TRY, caught, 0);
            words.advance();
            readExpression(depth + 1);
            now.emit(DO_TRIED, 0, 0);
            now.emit(DO_GO, behind, 0);
            now.emit(LABEL, caught, 0);
            pass(Words.CATCH);
            int key = now.addOwn();
            needName();
            room(scopeCount < MAX_VARIABLES);
            long name = words.value;
            words.advance();
            pass(':');
            readBound(name, key, depth);
            now.emit(LABEL, behind, 0);
        }

        private void readComparison(int depth) {
            readSum(depth);
            if (words.kind == '<' || words.kind == Words.SAME) {
                int what = words.kind == '<' ? DO_LESS : DO_SAME;
                part();
                words.advance();
                readSum(depth);
                now.emit(what, 0, 0);
            }
        }

        private void readSum(int depth) {
            readProduct(depth);
            for (int i = 0; i < TAPE_ROOM && (words.kind == '+' || words.kind == '-'); i++) {
                int what = words.kind == '+' ? DO_ADD : DO_SUBTRACT;
                part();
                words.advance();
                readProduct(depth);
                now.emit(what, 0, 0);
            }
        }

        private void readProduct(int depth) {
            readPrefix(depth);
            for (int i = 0; i < TAPE_ROOM && words.kind == '*'; i++) {
                part();
                words.advance();
                readPrefix(depth);
                now.emit(DO_MULTIPLY, 0, 0);
            }
        }

        private void readInnerPrefix(int depth) {
            need(words.beginsPrefix());
            room(depth <= MAX_DEPTH);
            readPrefix(depth);
        }

        private void readPrefix(int depth) {
            need(words.beginsPrefix());
            switch (words.kind) {
                case Words.OUT:
                    readWord(DO_OUT, depth);
                    break;
                case Words.FAIL:
                    readWord(DO_FAIL, depth);
                    break;
                case Words.SPAWN:
                    readWord(DO_SPAWN, depth);
                    break;
                case Words.WAIT:
                    readWord(DO_WAIT, depth);
                    break;
                case Words.PRIV_WORD:
                    readPriv(depth);
                    break;
                case Words.UNDER:
                    readUnder(depth);
                    break;
                default:
                    readPostfix(depth);
                    break;
            }
        }

        private void readWord(int what, int depth) {
            part();
            words.advance();
            readInnerPrefix(depth + 1);
            now.emit(what, 0, 0);
        }

        private void readPriv(int depth) {
            part();
            Unit inner = openUnit(PRIV);
            words.advance();
            boolean more = words.kind == '[';
            if (more) {
                openLimit(inner);
            }
            for (int i = 0; more && i <= MAX_RIGHTS; i++) {
                words.advance();
                readRight(i, true);
                more = words.kind == ',';
            }
            if (inner.sort == LIMITED_PRIV) {
                pass(']');
            }
            now = inner;
            readInnerPrefix(depth + 1);
            closeInner(inner, DO_PART);
        }

        private void openLimit(Unit inner) {
            room(policy.limitCount < MAX_LIMITS);
            inner.sort = LIMITED_PRIV;
            inner.limit = policy.limitCount;
            policy.addLimit();
        }

        private void readUnder(int depth) {
            part();
            Unit inner = openUnit(UNDER_UNIT);
            words.advance();
            readInnerPrefix(depth + 1);
            pass(':');
            now = inner;
            readInnerPrefix(depth + 1);
            closeInner(inner, DO_PART);
        }

        private void readPostfix(int depth) {
            readAtom(depth);
            boolean more = true;
            for (int i = 0; more && i < TAPE_ROOM; i++) {
                if (words.kind == '.') {
                    more = readMember(depth);
                } else if (words.kind == '(') {
                    part();
                    int n = readArguments(depth);
                    now.emit(DO_APPLY, n, 0);
                } else {
                    more = false;
                }
            }
        }

        // False behind a WRITE, which ends the POSTFIX.
        private boolean readMember(int depth) {
            part();
            words.advance();
            needName();
            int name = plan.nameIndex(words.value);
            words.advance();
            if (words.kind == '(') {
                int n = readArguments(depth);
                now.emit(DO_SEND, name, n);
                return true;
            }
            if (words.kind != Words.ASSIGN) {
                now.emit(DO_READ, name, 0);
                return true;
            }
            words.advance();
            readInnerPrefix(depth + 1);
            now.emit(DO_WRITE, name, 0);
            return false;
        }

        private int readArguments(int depth) {
            words.advance();
            int n = 0;
            boolean more = words.kind != ')';
            for (int i = 0; more && i <= MAX_PARAMETERS; i++) {
                need(words.beginsExpression());
                room(n < MAX_PARAMETERS);
                readExpression(depth + 1);
                n++;
                more = words.kind == ',';
                if (more) {
                    words.advance();
                }
            }
            pass(')');
            return n;
        }

        private void readAtom(int depth) {
            switch (words.kind) {
                case '{':
                    readRow(depth);
                    break;
                case '(':
                    words.advance();
                    readExpression(depth + 1);
                    pass(')');
                    break;
                case Words.NEW:
                    readNew();
                    break;
                case Words.FUN:
                    readFun(depth);
                    break;
                case Words.CHECK:
                    readAsking(DO_CHECK, depth);
                    break;
                case Words.ABLE:
                    readAsking(DO_ABLE, depth);
                    break;
                default:
                    readPlainAtom();
                    break;
            }
        }

        private void readPlainAtom() {
            part();
            switch (words.kind) {
                case Words.NUMBER:
                    now.emit(DO_NUMBER, plan.numberIndex((int) words.value), 0);
                    break;
                case Words.NONE_WORD:
                    now.emit(DO_NONE, 0, 0);
                    break;
                case Words.SELF:
                    getVariable(method.ownKey(0));
                    break;
                case Words.CTX:
                    now.emit(DO_CTX, 0, 0);
                    break;
                default:
                    getVariable(variableKey());
                    break;
            }
            words.advance();
        }

        private int variableKey() {
            int i = findVariable(words.value);
            if (i < 0 || i >= MAX_VARIABLES) {
                refuse(FAULT_UNKNOWN, words.at);
                return NONE;
            }
            return scopeKeys[i];
        }

        private void readNew() {
            part();
            words.advance();
            needName();
            int m = plan.findModule(words.value);
            if (m == NONE) {
                refuse(FAULT_UNKNOWN, words.at);
            }
            now.emit(DO_NEW, m, 0);
            words.advance();
        }

        private void readFun(int depth) {
            part();
            int before = scopeCount;
            Unit inner = openUnit(FUNCTION);
            now = inner;
            words.advance();
            pass('(');
            readParameters();
            pass(')');
            need(words.kind == '{');
            readRow(depth);
            scopeCount = before;
            closeInner(inner, DO_FUN);
        }

        private void readRow(int depth) {
            words.advance();
            readExpression(depth + 1);
            for (int i = 0; i < TAPE_ROOM && words.kind == ';'; i++) {
                part();
                now.emit(DO_DROP, 0, 0);
                words.advance();
                readExpression(depth + 1);
            }
            pass('}');
        }

        private void readAsking(int what, int depth) {
            part();
            room(policy.askingCount < MAX_ASKINGS);
            int asking = policy.askingCount;
            policy.addAsking();
            words.advance();
            needName();
            pattern.kind = words.value;
            words.advance();
            takePattern(true);
            policy.setAsking(asking, pattern);
            if (words.kind == '[') {
                policy.setIndexed(asking);
                words.advance();
                readExpression(depth + 1);
                pass(']');
            }
            now.emit(what, asking, 0);
        }
    }

    /** What can be told of UNITS ahead of any run: which NEED a context, which MAY be GRANTED. */
    private static final class Survey {
        private static final int YES = 1;
        private static final int NO = 2;

        private final Plan plan;
        private final int[] may;
        private int contextMay;
        private boolean changed;
        boolean done;

        Survey(Plan itsPlan) {
            plan = itsPlan;
            may = new int[MAX_UNITS];
        }

        void forget() {
            done = false;
        }

        void findNeeds() {
            changed = true;
            for (int time = 0; changed && time <= MAX_UNITS; time++) {
                changed = false;
                for (int u = 0; u < plan.unitCount; u++) {
                    if (!plan.unitAt(u).needs && wantsContext(plan.unitAt(u))) {
                        setNeeds(plan.unitAt(u).group);
                    }
                }
            }
        }

        private boolean wantsContext(Unit unit) {
            boolean wants = false;
            for (int i = 0; !wants && i < unit.length(); i++) {
                wants = plan.handsContext(unit.what(i), unit.first(i), unit.second(i));
            }
            return wants;
        }

        private void setNeeds(int group) {
            for (int u = 0; u < plan.unitCount; u++) {
                if (plan.unitAt(u).group == group) {
                    plan.unitAt(u).needs = true;
                    changed = true;
                }
            }
        }

        int mayOf(int u) {
            return u >= 0 && u < MAX_UNITS ? may[u] : 0;
        }

        void findMay(int holders) {
            Arrays.fill(may, 0);
            contextMay = 0;
            for (int u = 0; u < plan.unitCount; u++) {
                Unit unit = plan.unitAt(u);
                if (unit.sort == METHOD && unit.parameters == 0) {
                    addMay(unit, meetOf(YES, unit, holders));
                }
            }
            changed = true;
            // Each time but the last adds a bit of one UNIT, or of CONTEXTS.
            for (int time = 0; changed && time <= 2 * MAX_UNITS + 2; time++) {
                changed = false;
                for (int u = 0; u < plan.unitCount; u++) {
                    if (mayOf(u) != 0) {
                        spread(plan.unitAt(u), holders);
                    }
                }
            }
            done = true;
        }

        private void spread(Unit unit, int holders) {
            int from = mayOf(unit.number);
            for (int i = 0; i < unit.length(); i++) {
                int what = unit.what(i);
                if (what == DO_CTX) {
                    changed = changed || (contextMay | from) != contextMay;
                    contextMay |= from;
                } else if (what == DO_PART) {
                    spreadPart(plan.unitAt(unit.first(i)), from, holders);
                } else {
                    spreadGroup(plan.groupBegun(what, unit.first(i), unit.second(i)), from, holders);
                }
            }
        }

        private void spreadPart(Unit inner, int from, int holders) {
            if (inner.sort == PRIV) {
                addMay(inner, meetOf(YES, inner, holders));
            } else if (inner.sort == LIMITED_PRIV) {
                boolean limitHas = (holders >>> MAX_MODULES + inner.limit & 1) != 0;
                addMay(inner, meetOf(limitHas ? YES : from, inner, holders));
            } else {
                addMay(inner, meetOf(contextMay, inner, holders));
            }
        }

        private void spreadGroup(int group, int from, int holders) {
            for (int u = 0; group != NONE && u < plan.unitCount; u++) {
                if (plan.unitAt(u).group == group) {
                    addMay(plan.unitAt(u), meetOf(from, plan.unitAt(u), holders));
                }
            }
        }

        private static int meetOf(int bits, Unit unit, int holders) {
            boolean has = (holders >>> unit.domain & 1) != 0;
            return has || bits == 0 ? bits : NO;
        }

        private void addMay(Unit unit, int bits) {
            int u = unit.number;
            if (u >= 0 && u < MAX_UNITS && (may[u] | bits) != may[u]) {
                may[u] |= bits;
                changed = true;
            }
        }
    }

    /** The CONTEXTS of a run that is REWRITTEN, each kept once, as sets of PRODUCTS. */
    private static final class Contexts {
        // One PRODUCT without a LIMIT and one for each LIMIT is the most; one more while it is made.
        private static final int MOST_PRODUCTS = MAX_LIMITS + 2;
        private static final int BUCKETS = 256;

        private final Row starts;
        private final Row products;
        private final Row chain;
        private final int[] heads;
        private final int[] draft;
        private int draftSize;

        Contexts() {
            starts = new Row(16);
            products = new Row(32);
            chain = new Row(16);
            heads = new int[BUCKETS];
            draft = new int[MOST_PRODUCTS];
        }

        void clear() {
            starts.cut(0);
            products.cut(0);
            chain.cut(0);
            Arrays.fill(heads, NONE);
        }

        int made() {
            return starts.size;
        }

        int productCount(int c) {
            int behind = c + 1 < starts.size ? starts.at(c + 1) : products.size;
            return behind - starts.at(c);
        }

        int product(int c, int i) {
            return products.at(starts.at(c) + i);
        }

        boolean grants(int c, int holders) {
            boolean granted = c == NONE;
            for (int i = 0; !granted && i < productCount(c); i++) {
                granted = (product(c, i) & ~holders) == 0;
            }
            return granted;
        }

        // NONE stands for ALL, which no frame ever has as its own.
        void load(int c) {
            draftSize = 0;
            if (c == NONE) {
                addDraft(0);
                return;
            }
            for (int i = 0; i < productCount(c); i++) {
                addDraft(product(c, i));
            }
        }

        void addDraft(int product) {
            if (draftSize < MOST_PRODUCTS) {
                draft[draftSize] = product;
                draftSize++;
            }
        }

        // The context that what was loaded becomes when the domain is put into each PRODUCT.
        int settle(int domain) {
            for (int i = 0; i < draftSize; i++) {
                draft[i] |= 1 << domain;
            }
            reduce();
            sort();
            int bucket = bucketOf();
            int c = bucket >= 0 && bucket < BUCKETS ? heads[bucket] : NONE;
            for (int k = 0; k < MAX_STEPS && c != NONE; k++) {
                if (isDraft(c)) {
                    return c;
                }
                c = chain.at(c);
            }
            return keep(bucket);
        }

        private int keep(int bucket) {
            int c = starts.size;
            starts.add(products.size);
            for (int i = 0; i < draftSize; i++) {
                products.add(draft[i]);
            }
            if (bucket >= 0 && bucket < BUCKETS) {
                chain.add(heads[bucket]);
                heads[bucket] = c;
            }
            return c;
        }

        private void reduce() {
            int kept = 0;
            for (int i = 0; i < draftSize; i++) {
                if (!hasAnother(draft[i], i, kept)) {
                    draft[kept] = draft[i];
                    kept++;
                }
            }
            draftSize = kept;
        }

        // Looks at those kept and those to come; of equal ones the last stays.
        private boolean hasAnother(int product, int place, int kept) {
            boolean found = false;
            for (int j = 0; !found && j < draftSize; j++) {
                if (j < kept || j > place) {
                    found = (draft[j] & ~product) == 0;
                }
            }
            return found;
        }

        private void sort() {
            for (int i = 1; i < draftSize; i++) {
                int product = draft[i];
                int j = i;
                while (j > 0 && draft[j - 1] > product) {
                    draft[j] = draft[j - 1];
                    j--;
                }
                draft[j] = product;
            }
        }

        private int bucketOf() {
            int hash = draftSize;
            for (int i = 0; i < draftSize; i++) {
                hash = hash * 31 + draft[i];
            }
            return (hash ^ hash >>> 13) & BUCKETS - 1;
        }

        private boolean isDraft(int c) {
            int from = starts.at(c);
            int behind = c + 1 < starts.size ? starts.at(c + 1) : products.size;
            boolean same = behind - from == draftSize;
            for (int i = 0; same && i < draftSize; i++) {
                same = products.at(from + i) == draft[i];
            }
            return same;
        }
    }

    /** One thread of a run: its frames, and one stack for the LOCALS and the working values of all. */
    private static final class Strand {
        static final int GOES_ON = 0;
        static final int HAS_VALUE = 1;
        static final int HAS_FAILED = 2;

        private final int[] units;
        private final int[] places;
        private final int[] bases;
        private final int[] bottoms;
        private final int[] nodes;
        private final int[] contexts;
        final Row stack;
        int number;
        int depth;
        int began;
        int state;
        int waits;
        long outcome;
        int failure;
        // The frame that is to begin here: its UNIT, its stack, and the CONTEXT that an under is given.
        Unit called;
        private int calledBase;
        private int calledBottom;
        int given;

        Strand() {
            units = new int[MAX_FRAMES];
            places = new int[MAX_FRAMES];
            bases = new int[MAX_FRAMES];
            bottoms = new int[MAX_FRAMES];
            nodes = new int[MAX_FRAMES];
            contexts = new int[MAX_FRAMES];
            stack = new Row(32);
        }

        void clear(int itsNumber) {
            number = itsNumber;
            depth = 0;
            began = 0;
            state = GOES_ON;
            waits = NONE;
            outcome = Machine.NONE_VALUE;
            stack.cut(0);
        }

        // Its LOCALS begin at base; what stands from bottom on goes when it ends.
        void call(Unit unit, int base, int bottom, int context) {
            called = unit;
            calledBase = base;
            calledBottom = bottom;
            given = context;
        }

        void enter(int node, int context) {
            if (called == null || depth < 0 || depth >= MAX_FRAMES) {
                return;
            }
            units[depth] = called.number;
            places[depth] = 0;
            bases[depth] = calledBase;
            bottoms[depth] = calledBottom;
            nodes[depth] = node;
            contexts[depth] = context;
            depth++;
            began++;
            for (int i = stack.size; i < calledBase + called.locals(); i++) {
                stack.add(Machine.NONE_VALUE);
            }
        }

        void leave() {
            if (depth > 0 && depth <= MAX_FRAMES) {
                depth--;
                stack.cut(bottoms[depth]);
            }
        }

        private boolean framed() {
            return depth > 0 && depth <= MAX_FRAMES;
        }

        int unitNow() {
            return framed() ? units[depth - 1] : 0;
        }

        int placeNow() {
            return framed() ? places[depth - 1] : 0;
        }

        void goTo(int place) {
            if (framed()) {
                places[depth - 1] = place;
            }
        }

        int baseNow() {
            return framed() ? bases[depth - 1] : 0;
        }

        int nodeNow() {
            return framed() ? nodes[depth - 1] : NONE;
        }

        int contextNow() {
            return framed() ? contexts[depth - 1] : NONE;
        }

        // The value that stands n below the top one.
        long peek(int n) {
            return stack.get(stack.size - 1 - n);
        }

        // Drops all above the innermost open try of the top frame: its place; NONE without one.
        int dropToTry() {
            int base = baseNow();
            for (int i = stack.size - 1; i >= base; i--) {
                if (Machine.sortOf(stack.get(i)) == Machine.TRY_MARK) {
                    int place = stack.at(i);
                    stack.cut(i);
                    return place;
                }
            }
            return NONE;
        }

        void finish(int how, long value) {
            state = how;
            outcome = value;
        }
    }

    /** Works out a RUN: the threads, what they make, and what they write. */
    private static final class Machine {
        static final int INT = 0;
        static final int NOTHING = 1;
        static final int OBJECT = 2;
        static final int CLOSURE = 3;
        static final int CONTEXT = 4;
        // Stands on a stack alone, where a try is open, so that a FAILURE finds it.
        static final int TRY_MARK = 5;
        static final long NONE_VALUE = (long) NOTHING << 32;

        // What an instruction leaves to be done: to go on, to let one be chosen, a FAILURE, a frame to begin.
        private static final int GOES = 0;
        private static final int RESTS = 1;
        private static final int FAILS = 2;
        private static final int CALLS = 3;

        private static final int ENDED = 0;
        private static final int STUCK = 1;
        private static final int CUT = 2;

        private static final int FAIL_REFUSED = 1;
        private static final int FAIL_MEMBER = 2;
        private static final int FAIL_SORT = 3;
        private static final int FAIL_PARAMETERS = 4;
        private static final int FAIL_INT = 5;
        private static final int FAIL_FRAMES = 6;
        private static final int FAIL_THREADS = 7;
        private static final int FAIL_WAIT = 8;
        private static final int FAIL_THINGS = 9;

        private static final int NODE_CELLS = 3;
        private static final int THING_CELLS = 2;
        private static final int EVENT_CELLS = 5;
        private static final int MAX_INDEX = 999;

        private final Plan plan;
        private final Policy policy;
        private final Contexts contexts;
        private final Strand[] strands;
        private final Row nodes;
        private final Row things;
        private final Row slots;
        private final Row events;
        private int strandCount;
        private int steps;
        private int mostSteps;
        private int eventCount;
        private int ending;
        private int mostFrames;
        private int looked;
        private int seed;
        private int drawn;
        private boolean rewritten;
        // Where the frame that is to begin will stand: a new thread's, if it is spawned.
        private Strand target;
        boolean ran;

        Machine(Plan itsPlan, Policy itsPolicy) {
            plan = itsPlan;
            policy = itsPolicy;
            contexts = new Contexts();
            strands = new Strand[MAX_THREADS];
            for (int t = 0; t < MAX_THREADS; t++) {
                strands[t] = new Strand();
            }
            target = strands[0];
            nodes = new Row(48);
            things = new Row(32);
            slots = new Row(64);
            events = new Row(EVENT_CELLS * 16);
        }

        static long valueOf(int sort, int number) {
            return (long) sort << 32 | number & 0xffffffffL;
        }

        static int sortOf(long value) {
            return (int) (value >>> 32);
        }

        void forget() {
            ran = false;
        }

        void prepare(Unit unit, int itsSeed, int itsSteps, boolean anew) {
            contexts.clear();
            nodes.cut(0);
            things.cut(0);
            slots.cut(0);
            events.cut(0);
            strandCount = 1;
            steps = 0;
            mostSteps = itsSteps;
            eventCount = 0;
            ending = ENDED;
            mostFrames = 0;
            looked = 0;
            seed = itsSeed;
            drawn = itsSeed;
            rewritten = anew;
            ran = true;
            target = strands[0];
            target.clear(0);
            makeObject(target, unit.module);
            target.call(unit, 0, 0, NONE);
            begin(target);
        }

        int goOn() {
            int t = 0;
            for (int i = 0; i < MANY && t != NONE; i++) {
                goThread(strandAt(t));
                t = ending == CUT ? NONE : choose();
            }
            if (ending != CUT) {
                ending = allEnded() ? ENDED : STUCK;
            }
            return ending;
        }

        private Strand strandAt(int t) {
            return strands[t >= 0 && t < MAX_THREADS ? t : 0];
        }

        private boolean hasEnded(int t) {
            return strandAt(t).state != Strand.GOES_ON;
        }

        private boolean allEnded() {
            boolean all = true;
            for (int t = 0; t < strandCount; t++) {
                all = all && hasEnded(t);
            }
            return all;
        }

        private boolean canGoOn(int t) {
            Strand strand = strandAt(t);
            return !hasEnded(t) && (strand.waits == NONE || hasEnded(strand.waits));
        }

        private int choose() {
            int able = 0;
            for (int t = 0; t < strandCount; t++) {
                able += canGoOn(t) ? 1 : 0;
            }
            if (able == 0) {
                return NONE;
            }
            int before = 0;
            if (seed != 0) {
                drawn = drawn * 1103515245 + 12345;
                before = (drawn >>> 16) % able;
            }
            int t = 0;
            while (t < strandCount && (before > 0 || !canGoOn(t))) {
                before -= canGoOn(t) ? 1 : 0;
                t++;
            }
            return t;
        }

        private void goThread(Strand strand) {
            int state = GOES;
            if (strand.waits != NONE) {
                Strand other = strandAt(strand.waits);
                strand.waits = NONE;
                state = takeOutcome(strand, other);
            }
            for (int i = 0; i < MANY && state != RESTS; i++) {
                if (state == FAILS) {
                    state = raise(strand);
                } else if (state == CALLS) {
                    state = begin(strand);
                } else {
                    state = step(strand);
                }
            }
        }

        private int step(Strand strand) {
            Row code = plan.unitAt(strand.unitNow()).plain;
            int place = strand.placeNow();
            int what = code.at(place);
            int operands = what >= 0 && what < OPERANDS.length ? OPERANDS[what] : 0;
            int a = operands > 0 ? code.pairAt(place + 1) : 0;
            strand.goTo(place + 1 + 2 * operands);
            switch (what) {
                case DO_NUMBER: return push(strand, valueOf(INT, plan.numberAt(a)));
                case DO_NONE: return push(strand, NONE_VALUE);
                case DO_GET: return push(strand, strand.stack.get(strand.baseNow() + a));
                case DO_PUT: return put(strand, a);
                case DO_NEW: return makeObject(strand, a);
                case DO_READ: return readField(strand, a);
                case DO_WRITE: return writeField(strand, a);
                case DO_SEND: return send(strand, a, code.pairAt(place + 3));
                case DO_APPLY: return apply(strand, a);
                case DO_FUN: return makeFun(strand, plan.unitAt(a));
                case DO_PART: return callPart(strand, plan.unitAt(a));
                case DO_ADD: case DO_SUBTRACT: case DO_MULTIPLY: case DO_LESS: return calculate(strand, what);
                case DO_SAME: return compareSame(strand);
                case DO_DROP: return drop(strand);
                case DO_GO: return jump(strand, a);
                case DO_ZERO: return jumpIfZero(strand, a);
                case DO_TRY: return push(strand, valueOf(TRY_MARK, a));
                case DO_TRIED: return closeTry(strand);
                case DO_OUT: return writeOut(strand);
                case DO_FAIL: return failWith(strand);
                case DO_SPAWN: return spawn(strand);
                case DO_WAIT: return await(strand);
                case DO_CHECK: return ask(strand, a, true);
                case DO_ABLE: return ask(strand, a, false);
                case DO_CTX: return push(strand, valueOf(CONTEXT, rewritten ? strand.contextNow() : strand.nodeNow()));
                default: return back(strand);
            }
        }

        private static int push(Strand strand, long value) {
            strand.stack.add(value);
            return GOES;
        }

        private static int put(Strand strand, int local) {
            strand.stack.set(strand.baseNow() + local, strand.stack.pop());
            return GOES;
        }

        private static int drop(Strand strand) {
            strand.stack.pop();
            return GOES;
        }

        private static int jump(Strand strand, int place) {
            strand.goTo(place);
            return GOES;
        }

        private static int fail(Strand strand, int failure) {
            strand.failure = failure;
            return FAILS;
        }

        private int jumpIfZero(Strand strand, int place) {
            long value = strand.stack.pop();
            if (sortOf(value) != INT) {
                return fail(strand, FAIL_INT);
            }
            if ((int) value == 0) {
                strand.goTo(place);
            }
            return GOES;
        }

        private static int closeTry(Strand strand) {
            long value = strand.stack.pop();
            strand.stack.pop();
            return push(strand, value);
        }

        private int calculate(Strand strand, int what) {
            long right = strand.stack.pop();
            long left = strand.stack.pop();
            if (sortOf(left) != INT || sortOf(right) != INT) {
                return fail(strand, FAIL_INT);
            }
            int x = (int) left;
            int y = (int) right;
            switch (what) {
                case DO_ADD: return push(strand, valueOf(INT, x + y));
                case DO_SUBTRACT: return push(strand, valueOf(INT, x - y));
                case DO_MULTIPLY: return push(strand, valueOf(INT, x * y));
                default: return push(strand, valueOf(INT, x < y ? 1 : 0));
            }
        }

        private int compareSame(Strand strand) {
            long right = strand.stack.pop();
            long left = strand.stack.pop();
            if (sortOf(left) > OBJECT || sortOf(right) > OBJECT) {
                return fail(strand, FAIL_INT);
            }
            return push(strand, valueOf(INT, left == right ? 1 : 0));
        }

        // A thing is what it is of (a module or a UNIT), and where its slots begin.
        private int addThing(int of) {
            things.add(of);
            things.add(slots.size);
            return things.size / THING_CELLS - 1;
        }

        private int thingCount() {
            return things.size / THING_CELLS;
        }

        private int thingOf(long value) {
            return things.at((int) value * THING_CELLS);
        }

        private int slotsOf(long value) {
            return things.at((int) value * THING_CELLS + 1);
        }

        private int makeObject(Strand strand, int module) {
            if (thingCount() >= MAX_THINGS) {
                return fail(strand, FAIL_THINGS);
            }
            int made = addThing(module);
            for (int i = 0; i < plan.fieldTotal(module); i++) {
                slots.add(NONE_VALUE);
            }
            return push(strand, valueOf(OBJECT, made));
        }

        private int makeFun(Strand strand, Unit unit) {
            if (thingCount() >= MAX_THINGS) {
                return fail(strand, FAIL_THINGS);
            }
            int made = addThing(unit.number);
            int from = strand.stack.size - unit.captured;
            for (int i = 0; i < unit.captured; i++) {
                slots.add(strand.stack.get(from + i));
            }
            strand.stack.cut(from);
            return push(strand, valueOf(CLOSURE, made));
        }

        private int readField(Strand strand, int name) {
            long object = strand.stack.pop();
            if (sortOf(object) != OBJECT) {
                return fail(strand, FAIL_SORT);
            }
            int slot = plan.fieldSlot(thingOf(object), plan.nameAt(name));
            if (slot == NONE) {
                return fail(strand, FAIL_MEMBER);
            }
            return push(strand, slots.get(slotsOf(object) + slot));
        }

        private int writeField(Strand strand, int name) {
            long value = strand.stack.pop();
            long object = strand.stack.pop();
            if (sortOf(object) != OBJECT) {
                return fail(strand, FAIL_SORT);
            }
            int slot = plan.fieldSlot(thingOf(object), plan.nameAt(name));
            if (slot == NONE) {
                return fail(strand, FAIL_MEMBER);
            }
            slots.set(slotsOf(object) + slot, value);
            return push(strand, value);
        }

        private int send(Strand strand, int name, int n) {
            long object = strand.peek(n);
            if (sortOf(object) != OBJECT) {
                return fail(strand, FAIL_SORT);
            }
            int found = plan.findMethod(thingOf(object), plan.nameAt(name), n);
            if (found == NONE) {
                return fail(strand, FAIL_MEMBER);
            }
            int base = strand.stack.size - 1 - n;
            return call(strand, plan.unitAt(found), base, base, NONE);
        }

        private int call(Strand strand, Unit unit, int base, int bottom, int given) {
            target = strand;
            strand.call(unit, base, bottom, given);
            return CALLS;
        }

        private int apply(Strand strand, int n) {
            long fun = strand.peek(n);
            if (sortOf(fun) != CLOSURE) {
                return fail(strand, FAIL_SORT);
            }
            Unit unit = plan.unitAt(thingOf(fun));
            if (unit.parameters != n) {
                return fail(strand, FAIL_PARAMETERS);
            }
            int base = strand.stack.size;
            pushCaptured(strand, fun, unit);
            for (int i = 0; i < n; i++) {
                push(strand, strand.stack.get(base - n + i));
            }
            return call(strand, unit, base, base - 1 - n, NONE);
        }

        private void pushCaptured(Strand strand, long fun, Unit unit) {
            for (int i = 0; i < unit.captured; i++) {
                push(strand, slots.get(slotsOf(fun) + i));
            }
        }

        private int callPart(Strand strand, Unit unit) {
            int base = strand.stack.size - unit.captured;
            if (unit.sort != UNDER_UNIT) {
                return call(strand, unit, base, base, NONE);
            }
            long given = strand.peek(unit.captured);
            if (sortOf(given) != CONTEXT) {
                return fail(strand, FAIL_SORT);
            }
            return call(strand, unit, base, base - 1, (int) given);
        }

        // The top frame of strand begins the one that its target was called with; a run's first has none.
        private int begin(Strand strand) {
            Unit unit = target.called;
            if (unit == null || steps >= mostSteps) {
                ending = CUT;
                return RESTS;
            }
            if (target.depth >= MAX_FRAMES) {
                return fail(target, FAIL_FRAMES);
            }
            steps++;
            int node = rewritten ? NONE : addNode(unit, strand.nodeNow());
            int context = rewritten && unit.needs ? makeContext(unit, strand.contextNow()) : NONE;
            target.enter(node, context);
            mostFrames = Math.max(mostFrames, target.depth);
            if (target == strand) {
                return GOES;
            }
            push(strand, valueOf(INT, strandCount));
            strandCount++;
            return RESTS;
        }

        // Frames stay here behind their end, as a CONTEXT or a thread may still lead to them.
        private int addNode(Unit unit, int below) {
            nodes.add(unit.number);
            nodes.add(below);
            nodes.add(target.given);
            return nodes.size / NODE_CELLS - 1;
        }

        private int makeContext(Unit unit, int outer) {
            contexts.load(unit.sort == PRIV ? NONE : unit.sort == UNDER_UNIT ? target.given : outer);
            if (unit.sort == LIMITED_PRIV) {
                contexts.addDraft(1 << MAX_MODULES + unit.limit);
            }
            return contexts.settle(unit.domain);
        }

        private int back(Strand strand) {
            long value = strand.stack.pop();
            strand.leave();
            if (strand.depth > 0) {
                return push(strand, value);
            }
            strand.finish(Strand.HAS_VALUE, value);
            return RESTS;
        }

        private int raise(Strand strand) {
            int failure = strand.failure;
            for (int i = 0; i <= MAX_FRAMES && strand.depth > 0; i++) {
                int place = strand.dropToTry();
                if (place != NONE) {
                    strand.goTo(place);
                    return push(strand, valueOf(INT, failure));
                }
                strand.leave();
            }
            strand.finish(Strand.HAS_FAILED, valueOf(INT, failure));
            record(strand, EVENT_FAILURE, failure, NONE, NONE);
            return RESTS;
        }

        private void record(Strand strand, int kind, int number, int asking, int index) {
            if (eventCount < MAX_EVENTS) {
                events.add(strand.number);
                events.add(kind);
                events.add(number);
                events.add(asking);
                events.add(index);
            }
            eventCount++;
        }

        private int writeOut(Strand strand) {
            long value = strand.peek(0);
            if (sortOf(value) != INT) {
                return fail(strand, FAIL_INT);
            }
            record(strand, EVENT_OUT, (int) value, NONE, NONE);
            return RESTS;
        }

        private int failWith(Strand strand) {
            long value = strand.stack.pop();
            return fail(strand, sortOf(value) == INT ? (int) value : FAIL_INT);
        }

        private int spawn(Strand strand) {
            long fun = strand.stack.pop();
            if (sortOf(fun) != CLOSURE) {
                return fail(strand, FAIL_SORT);
            }
            Unit unit = plan.unitAt(thingOf(fun));
            if (unit.parameters != 0) {
                return fail(strand, FAIL_PARAMETERS);
            }
            if (strandCount >= MAX_THREADS) {
                return fail(strand, FAIL_THREADS);
            }
            Strand made = strandAt(strandCount);
            made.clear(strandCount);
            pushCaptured(made, fun, unit);
            return call(made, unit, 0, 0, NONE);
        }

        private int await(Strand strand) {
            long value = strand.stack.pop();
            if (sortOf(value) != INT) {
                return fail(strand, FAIL_INT);
            }
            int t = (int) value;
            if (t < 0 || t >= strandCount || t == strand.number) {
                return fail(strand, FAIL_WAIT);
            }
            if (hasEnded(t)) {
                return takeOutcome(strand, strandAt(t));
            }
            strand.waits = t;
            return RESTS;
        }

        private int takeOutcome(Strand strand, Strand other) {
            if (other.state == Strand.HAS_FAILED) {
                return fail(strand, (int) other.outcome);
            }
            return push(strand, other.outcome);
        }

        private int ask(Strand strand, int asking, boolean check) {
            int index = NONE;
            if (policy.isIndexed(asking)) {
                long value = strand.stack.pop();
                index = (int) value;
                if (sortOf(value) != INT || index < 0 || index > MAX_INDEX) {
                    return fail(strand, FAIL_INT);
                }
            }
            int holders = policy.holdersOf(asking);
            if (index != NONE) {
                policy.aim(asking, index);
                holders = policy.holders(policy.goal);
            }
            boolean granted = rewritten ? contexts.grants(strand.contextNow(), holders) : walk(strand.nodeNow(), holders);
            int answer = granted ? 1 : 0;
            if (check) {
                record(strand, EVENT_CHECK, answer, asking, index);
            }
            return check && !granted ? fail(strand, FAIL_REFUSED) : push(strand, valueOf(INT, answer));
        }

        // Each frame leads to an earlier one, so there are no more than STEPS of them.
        private boolean walk(int from, int holders) {
            int node = from;
            for (int i = 0; i <= MAX_STEPS && node != NONE; i++) {
                looked++;
                Unit unit = plan.unitAt(nodes.at(node * NODE_CELLS));
                if ((holders >>> unit.domain & 1) == 0) {
                    return false;
                }
                boolean limitHas = unit.sort == LIMITED_PRIV && (holders >>> MAX_MODULES + unit.limit & 1) != 0;
                if (unit.sort == PRIV || limitHas) {
                    return true;
                }
                node = nodes.at(node * NODE_CELLS + (unit.sort == UNDER_UNIT ? 2 : 1));
            }
            return true;
        }

        int tell(int what) {
            switch (what) {
                case 0: return ending;
                case 1: return steps;
                case 2: return strandCount;
                case 3: return eventCount;
                case 4: return mostFrames;
                case 5: return thingCount();
                case 6: return looked;
                case 7: return contexts.made();
                default: return NONE;
            }
        }

        int tellEvent(int k, int what) {
            if (k < 0 || k >= events.size / EVENT_CELLS || what < 0 || what >= EVENT_CELLS) {
                return NONE;
            }
            return events.at(k * EVENT_CELLS + what);
        }

        int tellThread(int t, int what) {
            if (t < 0 || t >= strandCount) {
                return NONE;
            }
            Strand strand = strandAt(t);
            int sort = sortOf(strand.outcome);
            switch (what) {
                case 0: return strand.state;
                case 1: return sort == INT ? (int) strand.outcome : 0;
                case 2: return strand.state == Strand.HAS_VALUE ? sort : NONE;
                case 3: return strand.began;
                case 4: return strand.waits != NONE && !hasEnded(strand.waits) ? strand.waits : NONE;
                default: return NONE;
            }
        }

        int tellContext(int k, int i) {
            if (k < 0 || k >= contexts.made()) {
                return NONE;
            }
            if (i == NONE) {
                return contexts.productCount(k);
            }
            return i >= 0 && i < contexts.productCount(k) ? contexts.product(k, i) : NONE;
        }
    }
}
