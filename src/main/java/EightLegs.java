/** Swimmers upside down under water, each counting by herself; ../shared/DOC.md says what each call answers. */
public final class EightLegs {
    public static final int BAD = -1, NOT = -2, FULL = -3, STATE = -5, VOID = -2000000000;

    private static final int NOTHING = -11, OTHER_KIND = -12, NO_PLACE = -13, BELOW_ZERO = -14;
    private static final int MOST_SWIMMERS = 8, MOST_COUNTS = 60, MOST_BYTES = 120;
    private static final int MOST_TO_CHANGE = 16, MOST_CHANGED = 10, MOST_IN_LINE = 6;
    private static final int NOT_QUICKER = -99;
    private static final long NO_ELEMENT = -9223372036854775808L;

    private final Pool pool = new Pool();
    private final Changes changes = new Changes(pool);
    private final Tape tape = new Tape();
    private final Law rules = new Law();
    private final Routine steps = new Routine();
    private final Thought thought = new Thought(pool, rules, steps);
    private final Fewest fewest = new Fewest();
    private final Ground ground = new Ground(pool);
    private final Deeds deeds = new Deeds();
    private final Ways ways = new Ways();
    private final Shelves shelves = new Shelves();

    public EightLegs() {
    }

    // ---- swimmers

    public int swimmer(int xy, int tall) {
        if (xy < 0) {
            return BAD;
        }
        int x = xy % 100;
        int y = xy / 100;
        if (!Pool.isSwimmer(x, y, tall, 0)) {
            return BAD;
        }
        return pool.isFull() ? FULL : pool.join(x, y, tall, 0);
    }

    public int swimmers(int shelf, int i, int n) {
        if (!Shelves.isShelf(shelf) || n < 1 || n > MOST_SWIMMERS) {
            return BAD;
        }
        int refusal = shelves.refusal(shelf, Shelves.BYTES);
        if (refusal == NOTHING) {
            return 0;
        }
        return refusal != 0 ? refusal : pool.joinFrom(shelves.elements(shelf), shelves.size(shelf), i, n);
    }

    public int mend(int number, int what, int v) {
        if (!pool.keeps(number, what) || !Pool.allows(what, v)) {
            return VOID;
        }
        int before = pool.told(number, what);
        changes.tell(number, what, v);
        return before;
    }

    public int of(int number, int what) {
        if (what == 9 || what == 10) {
            return pool.has(number) ? deeds.told(number, what == 9) : VOID;
        }
        return pool.keeps(number, what) ? pool.told(number, what) : VOID;
    }

    public int feed(int letter) {
        if (letter < 0 || letter > 255) {
            return BAD;
        }
        return tape.isFull() ? FULL : tape.take(letter);
    }

    public int law() {
        boolean whole = tape.isText();
        int answer = whole ? 1 : -100 - tape.place();
        if (whole) {
            rules.become(tape.code(), tape.codes());
        }
        tape.empty();
        return answer;
    }

    public int loses(int ab, int o, int ek) {
        if (ab < 0 || ek < 0 || o < 0 || o > 9999) {
            return BAD;
        }
        int a = ab / 10;
        int b = ab % 10;
        int act = ek / 100;
        int k = ek % 100;
        if (!pool.has(a) || !pool.has(b) || a == b || !Routine.isAct(act) || k >= MOST_COUNTS) {
            return BAD;
        }
        thought.ready();
        return thought.marksOfTwo(a, b, o, act, k);
    }

    // ---- a routine in thought

    public int routine(int shelf, int what) {
        int refusal = begin(shelf, what >= 0 && what <= 3);
        if (refusal != 0) {
            return refusal;
        }
        switch (what) {
            case 0:
                return steps.counts();
            case 1:
                return thought.lost();
            case 2:
                return thought.firstSeen();
            default:
                return thought.worstTwo();
        }
    }

    public int off(int shelf, int n, int one) {
        if (begin(shelf, n >= 0 && n <= MOST_COUNTS && pool.has(one)) != 0) {
            return VOID;
        }
        thought.think(n);
        return thought.offOf(one);
    }

    public int apart(int shelf, int n, int what) {
        int refusal = begin(shelf, n >= 0 && n <= MOST_COUNTS && isZeroOrOne(what));
        if (refusal != 0) {
            return refusal;
        }
        thought.think(n);
        return what == 0 ? thought.widest() : thought.widestTwo();
    }

    public int gone(int shelf, int one) {
        int refusal = begin(shelf, one == -1 || pool.has(one));
        if (refusal != 0) {
            return refusal;
        }
        return one == -1 ? thought.allGone() : thought.goneOf(one);
    }

    public int least(int shelf, int one) {
        int refusal = begin(shelf, pool.has(one));
        return refusal != 0 ? refusal : Math.max(1, steps.longest(pool.told(0, Pool.GASP)));
    }

    public int gasps(int shelf, int k) {
        int refusal = begin(shelf, k >= -1);
        if (refusal != 0) {
            return refusal;
        }
        if (steps.counts() > MOST_TO_CHANGE) {
            return STATE;
        }
        fewest.chooseGasps(steps, pool.leastBreath(), pool.told(0, Pool.GASP));
        return fewest.answer(k);
    }

    public int looks(int shelf, int k) {
        int refusal = begin(shelf, k >= -1);
        if (refusal != 0) {
            return refusal;
        }
        if (steps.counts() > MOST_TO_CHANGE) {
            return STATE;
        }
        fewest.chooseLooks(steps, thought);
        return fewest.answer(k);
    }

    public int whose(int shelf, int what) {
        int refusal = begin(shelf, isZeroOrOne(what));
        return refusal != 0 ? refusal : fewestLost(what == 0, true);
    }

    public int first(int shelf, int what) {
        int refusal = begin(shelf, isZeroOrOne(what));
        return refusal != 0 ? refusal : fewestLost(what == 0, false);
    }

    public int slip(int shelf, int ok, int v) {
        boolean said = ok >= 0 && pool.has(ok / 100) && ok % 100 < MOST_COUNTS && v >= -99 && v <= 99;
        int refusal = begin(shelf, said);
        if (refusal != 0) {
            return refusal;
        }
        thought.slipAt(ok / 100, ok % 100, v);
        return thought.lost();
    }

    // ---- lines, lifts, stars

    public int line(int slant, int k) {
        if (slant < 0 || slant > 9 || k < -1) {
            return BAD;
        }
        if (pool.many() > MOST_IN_LINE) {
            return STATE;
        }
        int spread = ground.lineUp(slant);
        return k == -1 ? spread : ground.inLine(k);
    }

    public int lift(int what) {
        if (!isZeroOrOne(what)) {
            return BAD;
        }
        return ground.lifted(what == 0);
    }

    public int star(int what) {
        switch (what) {
            case 0:
                return ground.starSize();
            case 1:
                return ground.onOneCell();
            case 2:
                return ground.isMirror() ? 1 : 0;
            default:
                return BAD;
        }
    }

    // ---- ripples

    public int judge(int sr) {
        int refusal = beginRipples(sr, true);
        return refusal != 0 ? refusal : judged(sr);
    }

    public int whoLed(int sr) {
        int refusal = beginRipples(sr, true);
        if (refusal != 0) {
            return refusal;
        }
        int bits = 0;
        for (int one = 0; one < pool.many(); one++) {
            thought.leadBy(one);
            if (judged(sr) == NOT) {
                bits |= 1 << one;
            }
        }
        return bits;
    }

    public int later(int sr, int one) {
        int refusal = beginRipples(sr, pool.has(one));
        if (refusal != 0) {
            return refusal;
        }
        for (int v = 0; v <= 99; v++) {
            thought.delay(one, v);
            if (judged(sr) == NOT) {
                return v;
            }
        }
        return NOT;
    }

    public int quicker(int sr, int one) {
        int refusal = beginRipples(sr, pool.has(one));
        if (refusal != 0) {
            return refusal == BAD ? VOID : refusal;
        }
        for (int v = -9; v <= 9; v++) {
            thought.quicken(one, v);
            if (judged(sr) == NOT) {
                return v;
            }
        }
        return NOT_QUICKER;
    }

    public int drawn(int shelf, int seed, int ns, int what) {
        int n = ns / 100;
        int slips = ns % 100;
        int refusal = begin(shelf, n >= 1 && n <= 30 && slips <= 12 && isZeroOrOne(what));
        return refusal != 0 ? refusal : thought.train(seed, n, slips, what == 0);
    }

    // ---- in deed

    public int swim(int shelf) {
        int refusal = begin(shelf, true);
        if (refusal != 0) {
            return refusal;
        }
        int lost = thought.lost();
        deeds.swum(pool.many(), steps, lost, thought.allGone());
        return lost;
    }

    public int led(int what) {
        return what >= 0 && what < Deeds.TOLD ? deeds.inAll(what) : BAD;
    }

    public int image() {
        deeds.keepImage();
        return deeds.inAll(Deeds.ROUTINES);
    }

    public int back() {
        if (!deeds.hasImage()) {
            return STATE;
        }
        deeds.layBack();
        return deeds.inAll(Deeds.ROUTINES);
    }

    public int undo() {
        return changes.takeBack() ? changes.done() : STATE;
    }

    public int redo() {
        return changes.doAgain() ? changes.undone() : STATE;
    }

    // ---- acts, shelves

    public int body(int kind) {
        if (!Ways.isKind(kind)) {
            return BAD;
        }
        return ways.isFull() ? FULL : ways.add(kind);
    }

    public int act(int body, int act, int x) {
        if (!ways.start(body)) {
            return 0;
        }
        switch (act) {
            case 0:
                return ways.counts(x);
            case 1:
                return ways.turns(x);
            case 2:
                return ways.sinks(x);
            case 3:
                return ways.tells(x);
            default:
                return 0;
        }
    }

    public int trace(int i) {
        return ways.traced(i);
    }

    public int keep(int shelf, int body) {
        if (!Shelves.isShelf(shelf) || (body != -1 && !ways.has(body))) {
            return BAD;
        }
        shelves.hold(shelf, body);
        return 1;
    }

    public int row(int shelf, int sort, int n) {
        if (!Shelves.isShelf(shelf) || !Shelves.isSort(sort) || n > Shelves.MOST) {
            return BAD;
        }
        if (n < 0) {
            return BELOW_ZERO;
        }
        shelves.lay(shelf, sort, n);
        return 1;
    }

    public int put(int shelf, int i, long v) {
        if (!Shelves.isShelf(shelf)) {
            return BAD;
        }
        int refusal = shelves.rowRefusal(shelf);
        if (refusal != 0) {
            return refusal;
        }
        return shelves.set(shelf, i, v) ? 1 : NO_PLACE;
    }

    public long element(int shelf, int i) {
        if (!Shelves.isShelf(shelf) || shelves.rowRefusal(shelf) != 0) {
            return NO_ELEMENT;
        }
        return shelves.elementAt(shelf, i);
    }

    public int shift(int shelf, int i, int other, int j, int n) {
        if (!Shelves.isShelf(shelf) || !Shelves.isShelf(other)) {
            return BAD;
        }
        int refusal = shelves.pairRefusal(shelf, other);
        if (refusal != 0) {
            return refusal;
        }
        return shelves.move(shelf, i, other, j, n) ? n : NO_PLACE;
    }

    public int taken(int shelf, int k) {
        if (!Shelves.isShelf(shelf) || !Ways.isKind(k)) {
            return BAD;
        }
        int refusal = shelves.refusal(shelf, Shelves.COUNT);
        if (refusal != 0) {
            return refusal;
        }
        int kind = ways.kindOf(shelves.held(shelf));
        return Ways.isUnder(kind, k) ? kind : OTHER_KIND;
    }

    public int count(int what) {
        switch (what) {
            case 0:
                return pool.many();
            case 1:
                return tape.length();
            case 2:
                return changes.done();
            case 3:
                return ways.many();
            case 4:
                return ways.ran();
            default:
                return BAD;
        }
    }

    // ---- what several calls share

    private static boolean isZeroOrOne(int what) {
        return what == 0 || what == 1;
    }

    /** Takes the ROUTINE of a SHELF and the swimmers as they are; 0, or why not. */
    private int begin(int shelf, boolean said) {
        if (!said || !Shelves.isShelf(shelf)) {
            return BAD;
        }
        int refusal = shelves.refusal(shelf, Shelves.BYTES);
        if (refusal != 0) {
            return refusal;
        }
        steps.take(shelves.elements(shelf), shelves.size(shelf));
        thought.ready();
        return 0;
    }

    /** The fewest marks lost, and by whom: as leader, or mended to be neither quicker nor slower. */
    private int fewestLost(boolean who, boolean asLeader) {
        int fewestYet = 0;
        int best = NOT;
        for (int one = 0; one < pool.many(); one++) {
            thought.ready();
            if (asLeader) {
                thought.leadBy(one);
            } else {
                thought.quicken(one, 0);
            }
            int lost = thought.lost();
            if (best == NOT || lost < fewestYet) {
                fewestYet = lost;
                best = one;
            }
        }
        return who || best == NOT ? best : fewestYet;
    }

    private int beginRipples(int sr, boolean said) {
        if (!said || sr < 0 || !Shelves.isShelf(sr / 10) || !Shelves.isShelf(sr % 10)) {
            return BAD;
        }
        if (shelves.isEmpty(sr / 10) || shelves.isEmpty(sr % 10)) {
            return NOTHING;
        }
        int refusal = begin(sr / 10, true);
        return refusal != 0 ? refusal : shelves.refusal(sr % 10, Shelves.SHORTS);
    }

    private int judged(int sr) {
        return thought.judged(shelves.elements(sr % 10), shelves.size(sr % 10));
    }

    /** The swimmers and what holds for all of them, each number in the row of its "what". */
    private static final class Pool {
        static final int X = 0, Y = 1, TALL = 2, BREATH = 3, QUICK = 4, LATE = 5, LEADER = 6, SEEN = 7, GASP = 8;
        private static final int WHATS = 9;
        private static final int[] LEAST = {0, 0, 1, 1, -9, 0, 0, 1, 1};
        private static final int[] MOST = {15, 15, 9, 60, 9, 99, 7, 999, 9};

        private final int[][] numbers = new int[WHATS][MOST_SWIMMERS];
        private int many;

        Pool() {
            numbers[SEEN][0] = 25;
            numbers[GASP][0] = 1;
        }

        static boolean allows(int what, int v) {
            return what >= 0 && what < WHATS && v >= LEAST[what] && v <= MOST[what];
        }

        static boolean isSwimmer(int x, int y, int tall, int quick) {
            return allows(X, x) && allows(Y, y) && allows(TALL, tall) && allows(QUICK, quick);
        }

        int many() {
            return many;
        }

        boolean isFull() {
            return many >= MOST_SWIMMERS;
        }

        boolean has(int number) {
            return number >= 0 && number < many;
        }

        boolean keeps(int number, int what) {
            if (what < 0 || what >= WHATS) {
                return false;
            }
            return number >= 0 && number < (what >= LEADER ? 1 : many);
        }

        int told(int number, int what) {
            return keeps(number, what) ? numbers[what][number] : 0;
        }

        void tell(int number, int what, int v) {
            if (keeps(number, what)) {
                numbers[what][number] = v;
            }
        }

        int join(int x, int y, int tall, int quick) {
            if (isFull()) {
                return FULL;
            }
            int number = many;
            many++;
            tell(number, X, x);
            tell(number, Y, y);
            tell(number, TALL, tall);
            tell(number, BREATH, 12);
            tell(number, QUICK, quick);
            return number;
        }

        int joinFrom(long[] row, int size, int from, int n) {
            int came = 0;
            int at = from;
            for (int one = 0; one < n && !isFull(); one++) {
                // at is compared from this side so that a huge place does not wrap
                if (at > size - 4 || !joinFour(row, at)) {
                    return came;
                }
                came++;
                at += 4;
            }
            return came;
        }

        private boolean joinFour(long[] row, int at) {
            // a place below 0 is not there either: the row ends, and nobody comes
            if (at < 0 || at + 3 >= row.length) {
                return false;
            }
            int x = (int) row[at];
            int y = (int) row[at + 1];
            int tall = (int) row[at + 2];
            int quick = (int) row[at + 3];
            return isSwimmer(x, y, tall, quick) && join(x, y, tall, quick) >= 0;
        }

        /** The shortest breath of all; with nobody there, one that no routine uses up. */
        int leastBreath() {
            int least = MOST_COUNTS;
            for (int one = 0; one < many; one++) {
                least = Math.min(least, numbers[BREATH][one]);
            }
            return least;
        }
    }

    /** The numbers told by mend(), the latest ones kept so that they can be undone and done again. */
    private static final class Changes {
        private static final int MOST = 40;

        private final Pool pool;
        private final int[] number = new int[MOST];
        private final int[] what = new int[MOST];
        private final int[] before = new int[MOST];
        private final int[] after = new int[MOST];
        private int done;
        private int kept;

        Changes(Pool pool) {
            this.pool = pool;
        }

        int done() {
            return done;
        }

        int undone() {
            return kept - done;
        }

        void tell(int who, int which, int v) {
            int was = pool.told(who, which);
            if (was == v) {
                return;
            }
            if (done == MOST) {
                forgetOldest();
            }
            number[done] = who;
            what[done] = which;
            before[done] = was;
            after[done] = v;
            done++;
            kept = done;
            pool.tell(who, which, v);
        }

        private void forgetOldest() {
            for (int i = 1; i < MOST; i++) {
                number[i - 1] = number[i];
                what[i - 1] = what[i];
                before[i - 1] = before[i];
                after[i - 1] = after[i];
            }
            done--;
        }

        boolean takeBack() {
            if (done <= 0) {
                return false;
            }
            done--;
            pool.tell(number[done], what[done], before[done]);
            return true;
        }

        boolean doAgain() {
            if (done >= kept) {
                return false;
            }
            pool.tell(number[done], what[done], after[done]);
            done++;
            return true;
        }
    }

    /**
     * The tape, and the reading of it as a text. What is read becomes code for the law, operands
     * first: a number stands for itself, a name is -1 less its place in oedtks, and all else is a
     * letter below 0.
     */
    private static final class Tape {
        static final int MINUS = -'~', NONE = -'!', SKIP = -'?', ANSWER = -';';
        // a letter becomes one code, a ? one as well; the end of the last line is one more
        static final int MOST_CODES = MOST_BYTES + 8;
        private static final int COMPARED = 2, FACTOR = 5, MOST_OPEN = 6, MOST_DIGITS = 4;
        private static final String NAMES = "oedtks";

        private final int[] letters = new int[MOST_BYTES];
        private final int[] code = new int[MOST_CODES];
        private int length;
        private int at;
        private int codes;

        int length() {
            return length;
        }

        boolean isFull() {
            return length >= MOST_BYTES;
        }

        int take(int letter) {
            if (!isFull()) {
                letters[length] = letter;
                length++;
            }
            return length;
        }

        void empty() {
            length = 0;
        }

        /** Where the reading ended: the fault, if it is no text. */
        int place() {
            return at;
        }

        int[] code() {
            return code;
        }

        int codes() {
            return codes;
        }

        boolean isText() {
            at = 0;
            codes = 0;
            for (int lines = 0; lines <= MOST_BYTES; lines++) {
                if (!isLine()) {
                    return false;
                }
                if (at >= length) {
                    return true;
                }
                if (!takes(';')) {
                    return false;
                }
            }
            return false;
        }

        private boolean isLine() {
            if (!isLevel(0, 0)) {
                return false;
            }
            if (takes('?')) {
                write(SKIP);
                if (!isLevel(0, 0)) {
                    return false;
                }
            }
            write(ANSWER);
            return true;
        }

        /** An E (level 0), A, B, S, P or O (level 5), with so many ( ! - open ahead of it. */
        private boolean isLevel(int level, int open) {
            if (level >= FACTOR) {
                return isFactor(open);
            }
            if (!isLevel(level + 1, open)) {
                return false;
            }
            for (int more = 0; more < MOST_BYTES && at < length && levelOf(letters[at]) == level; more++) {
                int sign = letters[at];
                at++;
                if (!isLevel(level + 1, open)) {
                    return false;
                }
                write(-sign);
                if (level == COMPARED) {
                    return true;
                }
            }
            return true;
        }

        private boolean isFactor(int open) {
            if (at >= length) {
                return false;
            }
            int letter = letters[at];
            if (isDigit(letter)) {
                writeNumber();
                return true;
            }
            int name = NAMES.indexOf((char) letter);
            if (name >= 0) {
                at++;
                write(-1 - name);
                return true;
            }
            return open < MOST_OPEN && isOpened(letter, open + 1);
        }

        private boolean isOpened(int letter, int open) {
            if (letter != '(' && letter != '!' && letter != '-') {
                return false;
            }
            at++;
            if (letter == '(') {
                return isLevel(0, open) && takes(')');
            }
            if (!isFactor(open)) {
                return false;
            }
            write(letter == '!' ? NONE : MINUS);
            return true;
        }

        private void writeNumber() {
            int number = 0;
            for (int digits = 0; digits < MOST_DIGITS && at < length && isDigit(letters[at]); digits++) {
                number = number * 10 + letters[at] - '0';
                at++;
            }
            write(number);
        }

        private boolean takes(int letter) {
            if (at >= length || letters[at] != letter) {
                return false;
            }
            at++;
            return true;
        }

        private void write(int one) {
            if (codes < MOST_CODES) {
                code[codes] = one;
                codes++;
            }
        }

        private static boolean isDigit(int letter) {
            return letter >= '0' && letter <= '9';
        }

        private static int levelOf(int letter) {
            switch (letter) {
                case '|':
                    return 0;
                case '&':
                    return 1;
                case '<':
                case '=':
                case '>':
                    return COMPARED;
                case '+':
                case '-':
                    return 3;
                case '*':
                case '/':
                case '%':
                    return 4;
                default:
                    return -1;
            }
        }
    }

    /** How many marks two lose in a count: by the code of a text, or by rote as long as there is none. */
    private static final class Law {
        private static final int MOST_MARKS = 99, NAMES = 6;

        private final int[] code = new int[Tape.MOST_CODES];
        private final int[] stack = new int[Tape.MOST_CODES];
        private final int[] named = new int[NAMES];
        private int codes;
        private int top;

        void become(int[] told, int many) {
            codes = Math.min(Math.min(many, told.length), Tape.MOST_CODES);
            System.arraycopy(told, 0, code, 0, codes);
        }

        int marks(int o, int act, int d, int t, int k, int seen) {
            if (codes == 0) {
                return byRote(o, act, seen);
            }
            named[0] = o;
            named[1] = act;
            named[2] = d;
            named[3] = t;
            named[4] = k;
            named[5] = seen;
            return Math.max(0, Math.min(MOST_MARKS, byText()));
        }

        private static int byRote(int o, int act, int seen) {
            if (seen <= 0) {
                return 0;
            }
            int seenApart = o / seen;
            return Math.min(MOST_MARKS, act == Routine.LEGS_UP ? 2 * seenApart : seenApart);
        }

        private int byText() {
            boolean skips = false;
            top = 0;
            for (int at = 0; at < codes; at++) {
                int one = code[at];
                if (one == Tape.ANSWER && !skips) {
                    return pop();
                }
                if (one == Tape.ANSWER) {
                    skips = false;
                } else if (one == Tape.SKIP && !skips) {
                    skips = pop() == 0;
                } else if (!skips) {
                    push(worth(one));
                }
            }
            return 0;
        }

        private int worth(int one) {
            if (one >= 0) {
                return one;
            }
            if (one >= -NAMES) {
                return named[-1 - one];
            }
            int last = pop();
            if (one == Tape.MINUS) {
                return -last;
            }
            if (one == Tape.NONE) {
                return last == 0 ? 1 : 0;
            }
            return joined(-one, pop(), last);
        }

        private static int joined(int sign, int a, int b) {
            switch (sign) {
                case '|':
                    return a != 0 || b != 0 ? 1 : 0;
                case '&':
                    return a != 0 && b != 0 ? 1 : 0;
                case '<':
                    return a < b ? 1 : 0;
                case '=':
                    return a == b ? 1 : 0;
                case '>':
                    return a > b ? 1 : 0;
                case '+':
                    return a + b;
                case '-':
                    return a - b;
                case '*':
                    return a * b;
                case '/':
                    return b == 0 ? 0 : a / b;
                default:
                    return b == 0 ? 0 : a % b;
            }
        }

        private void push(int v) {
            if (top < stack.length) {
                stack[top] = v;
                top++;
            }
        }

        private int pop() {
            if (top <= 0) {
                return 0;
            }
            top--;
            return stack[top];
        }
    }

    /** What is done count by count, and what it asks of anybody's breath. */
    private static final class Routine {
        static final int ABOVE = 0, UNDER = 1, LEGS_UP = 2, LOOK = 4;

        private final int[] acts = new int[MOST_COUNTS];
        private int counts;

        static boolean isAct(long act) {
            return act >= ABOVE && act <= LOOK;
        }

        static boolean isUnder(int act) {
            return act == UNDER || act == LEGS_UP;
        }

        void take(long[] row, int size) {
            counts = 0;
            int most = Math.min(Math.min(size, row.length), MOST_COUNTS);
            for (int k = 0; k < most && isAct(row[k]); k++) {
                acts[k] = (int) row[k];
                counts++;
            }
        }

        int counts() {
            return counts;
        }

        int actAt(int k) {
            return k >= 0 && k < counts ? acts[k] : ABOVE;
        }

        int countsUnder() {
            int under = 0;
            for (int k = 0; k < counts; k++) {
                if (isUnder(acts[k])) {
                    under++;
                }
            }
            return under;
        }

        int firstGone(int breath, int gasp) {
            int under = 0;
            int above = 0;
            for (int k = 0; k < counts; k++) {
                above = aboveThen(above, acts[k], gasp);
                under = underThen(under, above, acts[k], gasp);
                if (under > breath) {
                    return k;
                }
            }
            return NOT;
        }

        int longest(int gasp) {
            int longest = 0;
            int under = 0;
            int above = 0;
            for (int k = 0; k < counts; k++) {
                above = aboveThen(above, acts[k], gasp);
                under = underThen(under, above, acts[k], gasp);
                longest = Math.max(longest, under);
            }
            return longest;
        }

        /** Counts above on end behind a count; more of them than a gasp do no more. */
        static int aboveThen(int above, int act, int gasp) {
            return isUnder(act) ? 0 : Math.min(above + 1, gasp);
        }

        /** Counts under since all breath was there, behind a count; above is that of behind it, too. */
        static int underThen(int under, int above, int act, int gasp) {
            if (isUnder(act)) {
                return under + 1;
            }
            return above >= gasp ? 0 : under;
        }
    }

    /** A routine gone through in thought; quick, late and leader may be told otherwise than in the pool. */
    private static final class Thought {
        private final Pool pool;
        private final Law rules;
        private final Routine steps;
        private final int[] drift = new int[MOST_SWIMMERS];
        private final int[] quick = new int[MOST_SWIMMERS];
        private final int[] late = new int[MOST_SWIMMERS];
        private final int[][] far = new int[MOST_SWIMMERS][MOST_SWIMMERS];
        private final int[][] unlike = new int[MOST_SWIMMERS][MOST_SWIMMERS];
        private final int[][] lostByTwo = new int[MOST_SWIMMERS][MOST_SWIMMERS];
        private int leader;
        private int seen;
        private int slipper;
        private int slipped;
        private int slip;

        Thought(Pool pool, Law rules, Routine steps) {
            this.pool = pool;
            this.rules = rules;
            this.steps = steps;
        }

        void ready() {
            for (int one = 0; one < pool.many(); one++) {
                quick[one] = pool.told(one, Pool.QUICK);
                late[one] = pool.told(one, Pool.LATE);
            }
            leader = pool.told(0, Pool.LEADER);
            seen = pool.told(0, Pool.SEEN);
            slipped = -1;
            compare();
        }

        private void compare() {
            for (int a = 0; a < pool.many(); a++) {
                for (int b = 0; b < pool.many(); b++) {
                    far[a][b] = differing(a, b, Pool.X) + differing(a, b, Pool.Y);
                    unlike[a][b] = differing(a, b, Pool.TALL);
                }
            }
        }

        private int differing(int a, int b, int what) {
            return Math.abs(pool.told(a, what) - pool.told(b, what));
        }

        void slipAt(int one, int k, int v) {
            slipper = one;
            slipped = k;
            slip = v;
        }

        void leadBy(int one) {
            leader = one;
        }

        void quicken(int one, int v) {
            if (pool.has(one)) {
                quick[one] = v;
            }
        }

        void delay(int one, int v) {
            if (pool.has(one)) {
                late[one] = v;
            }
        }

        void think(int counts) {
            still();
            for (int k = 0; k < Math.min(counts, steps.counts()); k++) {
                step(steps.actAt(k));
            }
        }

        private void still() {
            for (int one = 0; one < MOST_SWIMMERS; one++) {
                drift[one] = 0;
            }
        }

        private void step(int act) {
            for (int one = 0; one < pool.many(); one++) {
                drift[one] += quick[one];
            }
            if (act == Routine.LOOK && pool.has(leader)) {
                int hers = drift[leader];
                for (int one = 0; one < pool.many(); one++) {
                    drift[one] = hers;
                }
            }
        }

        int offOf(int one) {
            return pool.has(one) ? drift[one] - late[one] : 0;
        }

        private int between(int a, int b) {
            return Math.abs(offOf(a) - offOf(b));
        }

        int widest() {
            int widest = 0;
            for (int a = 0; a < pool.many(); a++) {
                for (int b = a + 1; b < pool.many(); b++) {
                    widest = Math.max(widest, between(a, b));
                }
            }
            return widest;
        }

        int widestTwo() {
            int widest = -1;
            int two = NOT;
            for (int a = 0; a < pool.many(); a++) {
                for (int b = a + 1; b < pool.many(); b++) {
                    if (between(a, b) > widest) {
                        widest = between(a, b);
                        two = 10 * a + b;
                    }
                }
            }
            return two;
        }

        /** Whether two are seen apart so many counts behind a look, or behind the beginning. */
        boolean isSeenSince(int counts) {
            for (int one = 0; one < pool.many(); one++) {
                drift[one] = counts * quick[one];
            }
            return widest() >= seen;
        }

        boolean isLed() {
            return pool.has(leader);
        }

        int firstSeen() {
            still();
            for (int k = 0; k < steps.counts(); k++) {
                step(steps.actAt(k));
                if (widest() >= seen) {
                    return k;
                }
            }
            return NOT;
        }

        int marksOfTwo(int a, int b, int o, int act, int k) {
            if (!pool.has(a) || !pool.has(b)) {
                return 0;
            }
            return rules.marks(o, act, far[a][b], unlike[a][b], k, seen);
        }

        private int marksBehind(int k) {
            int act = steps.actAt(k);
            int lost = 0;
            for (int a = 0; a < pool.many(); a++) {
                for (int b = a + 1; b < pool.many(); b++) {
                    int marks = rules.marks(between(a, b), act, far[a][b], unlike[a][b], k, seen);
                    lostByTwo[a][b] += marks;
                    lost += marks;
                }
            }
            return lost;
        }

        int lost() {
            int lost = 0;
            still();
            for (int a = 0; a < MOST_SWIMMERS; a++) {
                for (int b = 0; b < MOST_SWIMMERS; b++) {
                    lostByTwo[a][b] = 0;
                }
            }
            for (int k = 0; k < steps.counts(); k++) {
                step(steps.actAt(k));
                if (k == slipped && pool.has(slipper)) {
                    drift[slipper] += slip;
                }
                lost += marksBehind(k);
            }
            return lost;
        }

        int worstTwo() {
            lost();
            int most = 0;
            int two = NOT;
            for (int a = 0; a < pool.many(); a++) {
                for (int b = a + 1; b < pool.many(); b++) {
                    if (lostByTwo[a][b] > most) {
                        most = lostByTwo[a][b];
                        two = 10 * a + b;
                    }
                }
            }
            return two;
        }

        int goneOf(int one) {
            return steps.firstGone(pool.told(one, Pool.BREATH), pool.told(0, Pool.GASP));
        }

        int allGone() {
            int bits = 0;
            for (int one = 0; one < pool.many(); one++) {
                if (goneOf(one) != NOT) {
                    bits |= 1 << one;
                }
            }
            return bits;
        }

        int judged(long[] ripples, int size) {
            int most = Math.min(Math.min(size, ripples.length), steps.counts());
            still();
            for (int k = 0; k < most; k++) {
                step(steps.actAt(k));
                if (widest() != ripples[k]) {
                    return k;
                }
            }
            return NOT;
        }

        int train(int seed, int trainings, int slips, boolean marks) {
            int z = seed;
            int lostInAll = 0;
            int clean = 0;
            for (int training = 0; training < trainings; training++) {
                int lost = 0;
                still();
                for (int k = 0; k < steps.counts(); k++) {
                    z = slipByDraws(z, slips);
                    step(steps.actAt(k));
                    lost += marksBehind(k);
                }
                lostInAll += lost;
                clean += lost == 0 ? 1 : 0;
            }
            return marks ? lostInAll : clean;
        }

        private int slipByDraws(int drawn, int slips) {
            int z = drawn;
            for (int one = 0; one < pool.many(); one++) {
                z = z * 1103515245 + 12345;
                if ((z >>> 8) % 12 < slips) {
                    drift[one]++;
                }
            }
            return z;
        }
    }

    /**
     * The fewest counts of one act that must become another one so that nothing is amiss. What may
     * still come depends on a state alone, so the fewest from each count and state on are worked
     * out from the end. For GASPS a state is ten times the counts under, and the counts above; for
     * LOOKS it is how many counts ago all were together.
     */
    private static final class Fewest {
        private static final int NEVER = 1000, STATES = 10 * (MOST_TO_CHANGE + 1);

        private final int[][] fewest = new int[MOST_TO_CHANGE + 1][STATES];
        private final int[] chosen = new int[MOST_TO_CHANGE];
        private final boolean[] seenApart = new boolean[MOST_TO_CHANGE + 1];
        private boolean looking;
        private boolean led;
        private int breath;
        private int gasp;
        private int many;

        void chooseGasps(Routine steps, int leastBreath, int gaspNow) {
            looking = false;
            breath = leastBreath;
            gasp = gaspNow;
            choose(steps, Routine.UNDER, Routine.ABOVE);
        }

        void chooseLooks(Routine steps, Thought thought) {
            looking = true;
            led = thought.isLed();
            for (int counts = 0; counts <= MOST_TO_CHANGE; counts++) {
                seenApart[counts] = thought.isSeenSince(counts);
            }
            choose(steps, Routine.ABOVE, Routine.LOOK);
        }

        int answer(int k) {
            if (many > MOST_CHANGED) {
                return NOT;
            }
            if (k == -1) {
                return many;
            }
            return k >= 0 && k < many ? chosen[k] : NOT;
        }

        private void choose(Routine steps, int act, int instead) {
            int counts = Math.min(steps.counts(), MOST_TO_CHANGE);
            for (int state = 0; state < STATES; state++) {
                fewest[counts][state] = 0;
            }
            for (int k = counts - 1; k >= 0; k--) {
                for (int state = 0; state < STATES; state++) {
                    int kept = from(k + 1, after(state, steps.actAt(k)));
                    int changed = steps.actAt(k) == act ? 1 + from(k + 1, after(state, instead)) : NEVER;
                    fewest[k][state] = Math.min(NEVER, Math.min(kept, changed));
                }
            }
            many = fewest[0][0];
            if (many <= MOST_CHANGED) {
                walk(steps, counts, act, instead);
            }
        }

        /** The earliest count that can be one of the fewest is taken: so the first of like ones comes. */
        private void walk(Routine steps, int counts, int act, int instead) {
            int state = 0;
            int found = 0;
            for (int k = 0; k < counts && found < many; k++) {
                int changed = after(state, instead);
                if (steps.actAt(k) == act && 1 + from(k + 1, changed) == from(k, state)) {
                    chosen[found] = k;
                    found++;
                    state = changed;
                } else {
                    state = after(state, steps.actAt(k));
                }
            }
        }

        private int from(int k, int state) {
            return state >= 0 && state < STATES && k >= 0 && k <= MOST_TO_CHANGE ? fewest[k][state] : NEVER;
        }

        /** The state behind an act; below 0 if something is amiss then. */
        private int after(int state, int act) {
            return looking ? afterLooking(state, act) : afterBreathing(state, act);
        }

        private int afterLooking(int state, int act) {
            int since = act == Routine.LOOK && led ? 0 : state + 1;
            return since >= 0 && since <= MOST_TO_CHANGE && !seenApart[since] ? since : -1;
        }

        private int afterBreathing(int state, int act) {
            int above = Routine.aboveThen(state % 10, act, gasp);
            int under = Routine.underThen(state / 10, above, act, gasp);
            return under > breath ? -1 : under * 10 + above;
        }
    }

    /** Where all stand, and how tall they are. */
    private static final class Ground {
        private final Pool pool;
        private final int[] order = new int[MOST_IN_LINE];
        private final int[] best = new int[MOST_IN_LINE];

        Ground(Pool pool) {
            this.pool = pool;
        }

        /** Finds the best line, and answers how unlike it looks. */
        int lineUp(int slant) {
            int n = Math.min(pool.many(), MOST_IN_LINE);
            for (int place = 0; place < n; place++) {
                order[place] = place;
            }
            int least = spread(slant, n);
            System.arraycopy(order, 0, best, 0, n);
            // 6 swimmers stand in 720 orders
            for (int more = 1; more < 720 && nextOrder(n); more++) {
                int spread = spread(slant, n);
                if (spread < least) {
                    least = spread;
                    System.arraycopy(order, 0, best, 0, n);
                }
            }
            return least;
        }

        int inLine(int k) {
            return k >= 0 && k < pool.many() && k < MOST_IN_LINE ? best[k] : NOT;
        }

        private int spread(int slant, int n) {
            if (n == 0) {
                return 0;
            }
            int greatest = tall(order[0]);
            int least = greatest;
            for (int place = 1; place < n; place++) {
                int seen = tall(order[place]) - slant * place;
                greatest = Math.max(greatest, seen);
                least = Math.min(least, seen);
            }
            return greatest - least;
        }

        private boolean nextOrder(int n) {
            int rise = -1;
            for (int place = 0; place + 1 < n; place++) {
                if (order[place] < order[place + 1]) {
                    rise = place;
                }
            }
            if (rise < 0) {
                return false;
            }
            int above = rise + 1;
            for (int place = rise + 1; place < n; place++) {
                if (order[place] > order[rise]) {
                    above = place;
                }
            }
            swap(rise, above);
            int right = n - 1;
            for (int left = rise + 1; left < right; left++) {
                swap(left, right);
                right--;
            }
            return true;
        }

        private void swap(int i, int j) {
            int was = order[i];
            order[i] = order[j];
            order[j] = was;
        }

        private int tall(int one) {
            return pool.told(one, Pool.TALL);
        }

        int lifted(boolean she) {
            int leastMore = 0;
            int found = NOT;
            int lifters = NOT;
            for (int one = 0; one < pool.many(); one++) {
                for (int bits = 0; bits < 1 << pool.many(); bits++) {
                    int more = tallTogether(bits) - 3 * tall(one);
                    boolean lift = Integer.bitCount(bits) == 3 && (bits & 1 << one) == 0 && more >= 0;
                    if (lift && (found == NOT || more < leastMore)) {
                        leastMore = more;
                        found = one;
                        lifters = bits;
                    }
                }
            }
            return she ? found : lifters;
        }

        private int tallTogether(int bits) {
            int sum = 0;
            for (int one = 0; one < pool.many(); one++) {
                if ((bits & 1 << one) != 0) {
                    sum += tall(one);
                }
            }
            return sum;
        }

        int starSize() {
            if (pool.many() == 0) {
                return 0;
            }
            return 1 + Math.max(reach(Pool.X), reach(Pool.Y));
        }

        private int reach(int what) {
            int least = pool.told(0, what);
            int most = least;
            for (int one = 1; one < pool.many(); one++) {
                least = Math.min(least, pool.told(one, what));
                most = Math.max(most, pool.told(one, what));
            }
            return most - least;
        }

        int onOneCell() {
            int bits = 0;
            for (int a = 0; a < pool.many(); a++) {
                for (int b = 0; b < pool.many(); b++) {
                    if (a != b && isAt(b, pool.told(a, Pool.X), pool.told(a, Pool.Y))) {
                        bits |= 1 << a;
                    }
                }
            }
            return bits;
        }

        boolean isMirror() {
            for (int one = 0; one < pool.many(); one++) {
                if (!isAnybodyAt(15 - pool.told(one, Pool.X), pool.told(one, Pool.Y))) {
                    return false;
                }
            }
            return true;
        }

        private boolean isAnybodyAt(int x, int y) {
            for (int one = 0; one < pool.many(); one++) {
                if (isAt(one, x, y)) {
                    return true;
                }
            }
            return false;
        }

        private boolean isAt(int one, int x, int y) {
            return pool.told(one, Pool.X) == x && pool.told(one, Pool.Y) == y;
        }
    }

    /** What was swum in deed, and an image of it. */
    private static final class Deeds {
        static final int ROUTINES = 0, COUNTS = 1, MARKS = 2, GASPS = 3, RESTS = 4, TOLD = 5;
        private static final int TIRED_OUT = 100;

        private final int[] tired = new int[MOST_SWIMMERS];
        private final int[] gasped = new int[MOST_SWIMMERS];
        private final int[] led = new int[TOLD];
        private final int[] tiredThen = new int[MOST_SWIMMERS];
        private final int[] gaspedThen = new int[MOST_SWIMMERS];
        private final int[] ledThen = new int[TOLD];
        private boolean kept;

        int told(int number, boolean asTired) {
            if (number < 0 || number >= MOST_SWIMMERS) {
                return VOID;
            }
            return asTired ? tired[number] : gasped[number];
        }

        int inAll(int what) {
            return what >= 0 && what < TOLD ? led[what] : BAD;
        }

        void swum(int swimmers, Routine steps, int lost, int gone) {
            int under = steps.countsUnder();
            for (int one = 0; one < Math.min(swimmers, MOST_SWIMMERS); one++) {
                tire(one, under);
                if ((gone & 1 << one) != 0) {
                    gasped[one]++;
                    led[GASPS]++;
                }
            }
            led[ROUTINES]++;
            led[COUNTS] += steps.counts();
            led[MARKS] += lost;
        }

        private void tire(int one, int under) {
            tired[one] += under;
            if (tired[one] >= TIRED_OUT) {
                tired[one] = 0;
                led[RESTS]++;
            }
        }

        boolean hasImage() {
            return kept;
        }

        // who is not there yet has 0 in the rows, so an image makes 0 of those that came since
        void keepImage() {
            System.arraycopy(tired, 0, tiredThen, 0, MOST_SWIMMERS);
            System.arraycopy(gasped, 0, gaspedThen, 0, MOST_SWIMMERS);
            System.arraycopy(led, 0, ledThen, 0, TOLD);
            kept = true;
        }

        void layBack() {
            System.arraycopy(tiredThen, 0, tired, 0, MOST_SWIMMERS);
            System.arraycopy(gaspedThen, 0, gasped, 0, MOST_SWIMMERS);
            System.arraycopy(ledThen, 0, led, 0, TOLD);
        }
    }

    /** The COUNTS kept as bodies, each of a kind, and the trace of the latest act. */
    private static final class Ways {
        private static final int MOST = 50, MOST_TRACED = 24;
        private static final int LEGS = 1, BREATH = 2, SMILE = 3, LIFT = 4, STAR = 5, ECHO = 6, JUDGE = 7, KINDS = 8;
        // bits of each kind itself and of all above it
        private static final int[] UP = {1, 2 + 1, 4 + 1, 8 + 4 + 1, 16 + 2 + 1, 32 + 8 + 4 + 1, 64 + 1, 128 + 16 + 2 + 1};

        private final int[] kinds = new int[MOST];
        private final int[] traced = new int[MOST_TRACED];
        private int many;
        private int ran;
        private int number;
        private int up;

        static boolean isKind(int kind) {
            return kind >= 0 && kind < KINDS;
        }

        static boolean isUnder(int kind, int other) {
            return isKind(kind) && isKind(other) && (UP[kind] >> other & 1) != 0;
        }

        int many() {
            return many;
        }

        int ran() {
            return ran;
        }

        boolean isFull() {
            return many >= MOST;
        }

        boolean has(int body) {
            return body >= 0 && body < many;
        }

        int kindOf(int body) {
            return has(body) ? kinds[body] : -1;
        }

        int add(int kindOfIt) {
            if (isFull()) {
                return FULL;
            }
            kinds[many] = kindOfIt;
            many++;
            return many - 1;
        }

        int traced(int i) {
            return i >= 0 && i < ran && i < MOST_TRACED ? traced[i] : BAD;
        }

        /** Empties the trace; whether there is such a body to act then. */
        boolean start(int body) {
            ran = 0;
            number = body;
            up = has(body) ? UP[kinds[body]] : 0;
            return has(body);
        }

        private boolean is(int kind) {
            return (up >> kind & 1) != 0;
        }

        private void begins(int bodyOfAct) {
            if (ran < MOST_TRACED) {
                traced[ran] = bodyOfAct;
            }
            ran++;
        }

        int counts(int x) {
            if (is(LEGS)) {
                begins(20);
                return plainCounts(x) + 3;
            }
            if (is(ECHO)) {
                begins(70);
                return plainCounts(x) * 2;
            }
            return plainCounts(x);
        }

        private int plainCounts(int x) {
            begins(1);
            return x + number;
        }

        int turns(int x) {
            if (is(JUDGE)) {
                begins(80);
                int above = plainTurns(x);
                return above + sinks(2);
            }
            int given = x;
            if (is(SMILE)) {
                begins(41);
                given++;
            }
            if (is(BREATH)) {
                begins(30);
                return -plainTurns(given);
            }
            return plainTurns(given);
        }

        private int plainTurns(int x) {
            begins(10);
            return counts(x) * 2;
        }

        int sinks(int x) {
            if (is(SMILE)) {
                begins(40);
                return plainSinks(x) * 3;
            }
            if (is(LIFT)) {
                begins(50);
                int above = plainSinks(x);
                return above - counts(2);
            }
            return plainSinks(x);
        }

        private int plainSinks(int x) {
            begins(11);
            return x ^ number;
        }

        int tells(int x) {
            if (is(STAR)) {
                begins(60);
                return plainTells(x) ^ 5;
            }
            if (is(JUDGE)) {
                begins(81);
                return plainTells(x) - 1;
            }
            return plainTells(x);
        }

        private int plainTells(int x) {
            begins(2);
            int turned = turns(x);
            return turned - sinks(1);
        }
    }

    /** Six shelves; what each holds is the sort of its row, or COUNT, or EMPTY. */
    private static final class Shelves {
        static final int BYTES = 0, SHORTS = 1, INTS = 2, LONGS = 3, BOOLEANS = 4, COUNT = 5, MOST = 60;
        private static final int EMPTY = -1, SHELVES = 6;

        private final int[] holds = new int[SHELVES];
        private final int[] bodies = new int[SHELVES];
        private final int[] sizes = new int[SHELVES];
        private final long[][] rows = new long[SHELVES][MOST];

        Shelves() {
            for (int shelf = 0; shelf < SHELVES; shelf++) {
                holds[shelf] = EMPTY;
            }
        }

        static boolean isShelf(int shelf) {
            return shelf >= 0 && shelf < SHELVES;
        }

        static boolean isSort(int sort) {
            return sort >= BYTES && sort <= BOOLEANS;
        }

        boolean isEmpty(int shelf) {
            return !isShelf(shelf) || holds[shelf] == EMPTY;
        }

        int refusal(int shelf, int wanted) {
            if (isEmpty(shelf)) {
                return NOTHING;
            }
            return holds[shelf] == wanted ? 0 : OTHER_KIND;
        }

        int rowRefusal(int shelf) {
            if (isEmpty(shelf)) {
                return NOTHING;
            }
            return isSort(holds[shelf]) ? 0 : OTHER_KIND;
        }

        int pairRefusal(int shelf, int other) {
            if (isEmpty(shelf) || isEmpty(other)) {
                return NOTHING;
            }
            return isSort(holds[shelf]) && holds[shelf] == holds[other] ? 0 : OTHER_KIND;
        }

        void hold(int shelf, int body) {
            if (isShelf(shelf)) {
                holds[shelf] = body < 0 ? EMPTY : COUNT;
                bodies[shelf] = body;
                sizes[shelf] = 0;
            }
        }

        void lay(int shelf, int sort, int n) {
            if (isShelf(shelf)) {
                holds[shelf] = sort;
                sizes[shelf] = n;
                for (int i = 0; i < MOST; i++) {
                    rows[shelf][i] = 0;
                }
            }
        }

        int held(int shelf) {
            return isShelf(shelf) && holds[shelf] == COUNT ? bodies[shelf] : -1;
        }

        long[] elements(int shelf) {
            return rows[isShelf(shelf) ? shelf : 0];
        }

        int size(int shelf) {
            return isShelf(shelf) ? sizes[shelf] : 0;
        }

        private boolean isPlace(int shelf, int i) {
            return isShelf(shelf) && i >= 0 && i < sizes[shelf] && i < MOST;
        }

        boolean set(int shelf, int i, long v) {
            if (!isPlace(shelf, i)) {
                return false;
            }
            rows[shelf][i] = cut(holds[shelf], v);
            return true;
        }

        private static long cut(int sort, long v) {
            switch (sort) {
                case BYTES:
                    return (byte) v;
                case SHORTS:
                    return (short) v;
                case INTS:
                    return (int) v;
                case LONGS:
                    return v;
                default:
                    return v != 0 ? 1 : 0;
            }
        }

        long elementAt(int shelf, int i) {
            return isPlace(shelf, i) ? rows[shelf][i] : NO_ELEMENT;
        }

        boolean move(int shelf, int i, int other, int j, int n) {
            if (!isStretch(shelf, i, n) || !isStretch(other, j, n)) {
                return false;
            }
            System.arraycopy(rows[shelf], i, rows[other], j, n);
            return true;
        }

        private boolean isStretch(int shelf, int i, int n) {
            // compared from this side so that a huge size does not wrap
            return isShelf(shelf) && i >= 0 && n >= 0 && i <= sizes[shelf] - n;
        }
    }
}
