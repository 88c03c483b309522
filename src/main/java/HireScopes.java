/** A house that hires out costumes by guarded loans; ../shared/DOC.md says what each call answers. */
public final class HireScopes {
    public static final int NOTHING = -1, UNKNOWN = -101, OUTSIDE = -102, STATE = -103, FULL = -104;

    private static final int MOST_PARTS = 60, SORTS = 40, MOST_CENTS = 100000, CUSTOMERS = 8;
    private static final int MOST_ACTS = 12, MOST_LINES = 40, MOST_NESTED = 8, SLOTS = 8;
    private static final int MOST_PLANS = 30, MOST_PLANNED = 20, MOST_LOGGED = 60;
    private static final int MOST_DEPTH = 10, MOST_STEPS = 160, MOST_FAILURES = 16;

    // A RUN of 160 STEPS can't make more LOANS than STEPS, nor hold more BLOCKS than its ACTS can nest.
    private static final int MOST_LOANS = MOST_STEPS, MOST_BLOCKS = MOST_DEPTH * (MOST_NESTED + 1);

    // Each move is a STEP, or ends or leaves a BLOCK that a STEP began, so no RUN comes near this.
    private static final int MOST_MOVES = 1000000;

    private static final int ON_RACK = 0, LENT = 1, IN_CLEANING = 2, LOST = 3;

    private static final int AT_USE = 0, AT_GIVING_BACK = 1;

    private static final int BY_BACK = 0, BY_SCOPE = 1, BY_SPENT = 2, BY_CALL = 3;

    private static final int BORROW = 0, TAKE = 1, HOLD = 2, USE = 3, BACK = 4, LEND = 5, PASS = 6, CALL = 7,
            FAIL = 8, RETURN = 9, BREAK = 10, LOOP = 11, SCOPE = 12, TRY = 13, GUARD = 14, FINISH = 15, END = 16;
    // Not an OP: the BLOCK that a whole ACT is.
    private static final int WHOLE_ACT = 17;

    // The largest a and b of each OP; NOTHING where it is not looked at.
    private static final int[] LARGEST_A = {7, 7, 7, 7, 7, 7, 7, 11, 11, -1, -1, 20, -1, -1, 11, -1, -1};
    private static final int[] LARGEST_B = {59, 39, 59, -1, -1, 7, 9, 7, -1, -1, -1, -1, -1, -1, -1, -1, -1};

    private static final int TAKEN = 2, OVER = 3, CLOSED = 4, PLANNED = 5, TORN = 6, EMPTY = 7, DEEP = 8;
    private static final int KINDS = 12;
    // The KIND that each KIND is UNDER.
    private static final int[] KIND_ABOVE = {-1, 0, 1, 1, 1, 0, 5, 0, 0, 0, 9, 5};

    private static final int BAD_NUMBER = 1, NO_BLOCK = 2, TOO_NESTED = 3, NO_LOOP = 4, NO_END = 5;

    private static final int ENDED = 0, ENDED_FAILING = 1, ENDED_SPENT = 2;

    private final House house;
    private final Script[] scripts;
    private int scriptCount;
    private final Play play;

    public HireScopes() {
        House newHouse = new House();
        Script[] newScripts = new Script[MOST_ACTS];
        house = newHouse;
        scripts = newScripts;
        play = new Play(newHouse, newScripts);
    }

    public int part(int sort, int cents) {
        if (!within(sort, SORTS) || cents < 0 || cents > MOST_CENTS) {
            return OUTSIDE;
        }
        return house.takeIn(sort, cents);
    }

    public int state(int p) {
        Part part = house.find(p);
        return part == null ? UNKNOWN : part.state;
    }

    public int clean(int n) {
        return n < 0 || n > MOST_PARTS ? OUTSIDE : house.cleanFirst(n);
    }

    public int cleaning(int i) {
        return house.inCleaning(i);
    }

    public int plan(int p, int n, int what) {
        if (house.find(p) == null) {
            return UNKNOWN;
        }
        if (n < 1 || n > MOST_PLANNED || !within(what, 2)) {
            return OUTSIDE;
        }
        return house.plans.add(p, n, what);
    }

    public int plans(boolean gone) {
        int count = house.plans.count;
        if (gone) {
            house.plans.count = 0;
        }
        return count;
    }

    public int act() {
        if (!within(scriptCount, MOST_ACTS)) {
            return FULL;
        }
        scripts[scriptCount] = new Script();
        scriptCount++;
        return scriptCount - 1;
    }

    public int line(int n, int op, int a, int b) {
        Script script = findScript(scripts, n);
        return script == null ? UNKNOWN : script.add(op, a, b);
    }

    public int wipe(int n) {
        Script script = findScript(scripts, n);
        return script == null ? UNKNOWN : script.clear();
    }

    public int fault(int n, int what) {
        Script script = findScript(scripts, n);
        if (script == null) {
            return UNKNOWN;
        }
        if (!within(what, 2)) {
            return OUTSIDE;
        }
        return what == 0 ? script.faultNumber() : script.faultLine();
    }

    public int run(int n, int c) {
        Script script = findScript(scripts, n);
        if (script == null || !within(c, CUSTOMERS)) {
            return UNKNOWN;
        }
        return script.faultNumber() == 0 ? play.perform(n, c) : STATE;
    }

    public int ran(int what) {
        return within(what, 7) ? play.told(what) : OUTSIDE;
    }

    public int failure(int i, int what) {
        if (!within(i, play.failures.count)) {
            return UNKNOWN;
        }
        return within(what, 6) ? play.failures.told(i, what) : OUTSIDE;
    }

    public int leaks() {
        return house.heldCount;
    }

    public int leak(int i, int what) {
        Part part = house.findHeld(i);
        if (part == null) {
            return UNKNOWN;
        }
        switch (what) {
            case 0: return part.number;
            case 1: return part.customer;
            case 2: return part.traceLength;
            default: return OUTSIDE;
        }
    }

    public int trace(int i, int k, int what) {
        Part part = house.findHeld(i);
        if (part == null || !within(k, part.traceLength)) {
            return UNKNOWN;
        }
        if (!within(what, 2)) {
            return OUTSIDE;
        }
        return what == 0 ? part.traceActs[k] : part.traceLines[k];
    }

    public int giveBack(int i) {
        Part part = house.findHeld(i);
        if (part == null) {
            return UNKNOWN;
        }
        return house.takeBack(part, BY_CALL) ? 0 : 1;
    }

    public long cents(int c, int what) {
        if (!within(c, CUSTOMERS)) {
            return UNKNOWN;
        }
        if (!within(what, 2)) {
            return OUTSIDE;
        }
        return what == 0 ? house.deposit(c) : house.charged[c];
    }

    public int log(int i, int what) {
        return within(what, 3) ? house.log.told(i, what) : OUTSIDE;
    }

    /** Whether a number is one of the first count from 0 on. */
    private static boolean within(int number, int count) {
        return number >= 0 && number < count;
    }

    private static Script findScript(Script[] scripts, int n) {
        return within(n, scripts.length) ? scripts[n] : null;
    }

    /** Whether a FAILURE's KIND is one that a GUARD of another KIND has. */
    private static boolean isUnder(int kind, int above) {
        int at = kind;
        for (int i = 0; i < KINDS && within(at, KINDS); i++) {
            if (at == above) {
                return true;
            }
            at = KIND_ABOVE[at];
        }
        return false;
    }

    /** A PART, with what is told of its OPEN PLAIN or LONG LOAN: it has one at most. */
    private static final class Part {
        final int number;
        final int sort;
        final int cents;
        int state;
        int customer;
        final int[] traceActs;
        final int[] traceLines;
        int traceLength;

        Part(int number, int sort, int cents) {
            this.number = number;
            this.sort = sort;
            this.cents = cents;
            traceActs = new int[MOST_DEPTH];
            traceLines = new int[MOST_DEPTH];
        }

        void addToTrace(int act, int line) {
            if (within(traceLength, MOST_DEPTH)) {
                traceActs[traceLength] = act;
                traceLines[traceLength] = line;
                traceLength++;
            }
        }
    }

    /** The PARTS and where they are: THE CLEANING, the LONG LOANS that are OPEN, what customers are CHARGED. */
    private static final class House {
        private final Part[] parts = new Part[MOST_PARTS];
        private int partCount;
        private final int[] cleaning = new int[MOST_PARTS];
        private int cleaningCount;
        // The PARTS of the OPEN LONG LOANS, in the order that these were made in.
        private final int[] held = new int[MOST_PARTS];
        private int heldCount;
        private final long[] charged = new long[CUSTOMERS];
        private final Plans plans = new Plans();
        private final Log log = new Log();

        Part find(int p) {
            return within(p, partCount) ? parts[p] : null;
        }

        Part findHeld(int i) {
            return within(i, heldCount) ? find(held[i]) : null;
        }

        int inCleaning(int i) {
            return within(i, cleaningCount) ? cleaning[i] : NOTHING;
        }

        int takeIn(int sort, int cents) {
            if (!within(partCount, MOST_PARTS)) {
                return FULL;
            }
            parts[partCount] = new Part(partCount, sort, cents);
            partCount++;
            return partCount - 1;
        }

        Part firstOnRack(int sort) {
            for (int p = 0; p < partCount; p++) {
                Part part = parts[p];
                if (part != null && part.sort == sort && part.state == ON_RACK) {
                    return part;
                }
            }
            return null;
        }

        int cleanFirst(int n) {
            int cleaned = Math.min(n, cleaningCount);
            for (int i = 0; i < cleaned; i++) {
                Part part = find(inCleaning(i));
                if (part != null) {
                    part.state = ON_RACK;
                }
            }
            for (int i = cleaned; i < cleaningCount; i++) {
                cleaning[i - cleaned] = cleaning[i];
            }
            cleaningCount -= cleaned;
            return cleaned;
        }

        void giveOut(Part part, int customer, boolean asLong) {
            part.state = LENT;
            part.customer = customer;
            part.traceLength = 0;
            if (asLong && within(heldCount, MOST_PARTS)) {
                held[heldCount] = part.number;
                heldCount++;
            }
        }

        /** A PART comes back from its PLAIN or LONG LOAN; answers whether it was TORN and so is LOST. */
        boolean takeBack(Part part, int how) {
            boolean torn = plans.meets(part.number, AT_GIVING_BACK);
            holdNoMore(part);
            if (torn) {
                part.state = LOST;
                charge(part);
            } else {
                part.state = IN_CLEANING;
                toCleaning(part);
            }
            log.add(part.number, how, torn);
            return torn;
        }

        private void charge(Part part) {
            if (part.customer >= 0 && part.customer < CUSTOMERS) {
                charged[part.customer] += part.cents;
            }
        }

        private void toCleaning(Part part) {
            if (cleaningCount < MOST_PARTS) {
                cleaning[cleaningCount] = part.number;
                cleaningCount++;
            }
        }

        private void holdNoMore(Part part) {
            int kept = 0;
            for (int i = 0; i < heldCount; i++) {
                if (held[i] != part.number) {
                    held[kept] = held[i];
                    kept++;
                }
            }
            heldCount = kept;
        }

        long deposit(int customer) {
            long sum = 0;
            for (int p = 0; p < partCount; p++) {
                Part part = parts[p];
                if (part != null && part.state == LENT && part.customer == customer) {
                    sum += part.cents;
                }
            }
            return sum;
        }
    }

    private static final class Plans {
        private final int[] parts = new int[MOST_PLANS];
        private final int[] left = new int[MOST_PLANS];
        private final int[] whats = new int[MOST_PLANS];
        private int count;

        int add(int part, int n, int what) {
            if (!within(count, MOST_PLANS)) {
                return FULL;
            }
            parts[count] = part;
            left[count] = n;
            whats[count] = what;
            count++;
            return count;
        }

        /** Counts one USE or giving back of a PART; answers whether a PLAN was met, and drops all that were. */
        boolean meets(int part, int what) {
            int kept = 0;
            int before = count;
            for (int i = 0; i < before; i++) {
                if (parts[i] == part && whats[i] == what) {
                    left[i]--;
                }
                if (left[i] > 0) {
                    parts[kept] = parts[i];
                    left[kept] = left[i];
                    whats[kept] = whats[i];
                    kept++;
                }
            }
            count = kept;
            return kept < before;
        }
    }

    private static final class Log {
        private final int[] parts = new int[MOST_LOGGED];
        private final int[] hows = new int[MOST_LOGGED];
        private final int[] losses = new int[MOST_LOGGED];
        private int count;
        private int latest = MOST_LOGGED - 1;

        void add(int part, int how, boolean lost) {
            latest = latest < MOST_LOGGED - 1 ? latest + 1 : 0;
            parts[latest] = part;
            hows[latest] = how;
            losses[latest] = lost ? 1 : 0;
            if (count < MOST_LOGGED) {
                count++;
            }
        }

        int told(int i, int what) {
            if (!within(i, count)) {
                return NOTHING;
            }
            int place = latest >= i ? latest - i : latest - i + MOST_LOGGED;
            switch (what) {
                case 0: return parts[place];
                case 1: return hows[place];
                default: return losses[place];
            }
        }
    }

    /** The LINES of an ACT; its FAULT and the ways between its LINES are kept as LINES come. */
    private static final class Script {
        private final int[] ops = new int[MOST_LINES];
        private final int[] as = new int[MOST_LINES];
        private final int[] bs = new int[MOST_LINES];
        // Behind LOOP, SCOPE, FINISH: the END; behind TRY, GUARD: the next GUARD, FINISH or END of that TRY.
        private final int[] nexts = new int[MOST_LINES];
        private int length;
        private int firstFault;
        private int firstFaultLine;
        // The BLOCKS that are begun and not ended: where each began, and the latest LINE of it that has no next.
        private final int[] begins = new int[MOST_NESTED];
        private final int[] marks = new int[MOST_NESTED];
        private int nested;

        int add(int op, int a, int b) {
            if (!within(length, MOST_LINES)) {
                return FULL;
            }
            ops[length] = op;
            as[length] = a;
            bs[length] = b;
            nexts[length] = NOTHING;
            length++;
            if (firstFault == 0) {
                firstFault = faultOf(op, a, b);
                firstFaultLine = length - 1;
                if (firstFault == 0) {
                    place(op, length - 1);
                }
            }
            return length;
        }

        int clear() {
            int before = length;
            length = 0;
            firstFault = 0;
            nested = 0;
            return before;
        }

        int faultNumber() {
            return firstFault == 0 && nested > 0 ? NO_END : firstFault;
        }

        int faultLine() {
            if (firstFault != 0) {
                return firstFaultLine;
            }
            return nested > 0 ? length : NOTHING;
        }

        private int faultOf(int op, int a, int b) {
            if (!within(op, WHOLE_ACT) || !fits(a, LARGEST_A[op]) || !fits(b, LARGEST_B[op])) {
                return BAD_NUMBER;
            }
            switch (op) {
                case END: return nested > 0 ? 0 : NO_BLOCK;
                case GUARD:
                case FINISH: return takesWays() ? 0 : NO_BLOCK;
                case LOOP:
                case SCOPE:
                case TRY: return nested < MOST_NESTED ? 0 : TOO_NESTED;
                case BREAK: return isInLoop() ? 0 : NO_LOOP;
                default: return 0;
            }
        }

        private static boolean fits(int number, int largest) {
            return largest == NOTHING || number >= 0 && number <= largest;
        }

        /** Whether the BLOCK begun last is a TRY without a FINISH. */
        private boolean takesWays() {
            int last = nested - 1;
            return within(last, MOST_NESTED) && opAt(begins[last]) == TRY && opAt(marks[last]) != FINISH;
        }

        private boolean isInLoop() {
            for (int i = 0; i < nested; i++) {
                if (opAt(begins[i]) == LOOP) {
                    return true;
                }
            }
            return false;
        }

        private void place(int op, int at) {
            if (op == LOOP || op == SCOPE || op == TRY) {
                if (within(nested, MOST_NESTED)) {
                    begins[nested] = at;
                    marks[nested] = at;
                    nested++;
                }
            } else if (op == GUARD || op == FINISH || op == END) {
                linkMark(op, at);
            }
        }

        private void linkMark(int op, int at) {
            int last = nested - 1;
            if (!within(last, MOST_NESTED)) {
                return;
            }
            if (within(marks[last], MOST_LINES)) {
                nexts[marks[last]] = at;
            }
            marks[last] = at;
            if (op == END) {
                nested--;
            }
        }

        int opAt(int at) {
            return within(at, length) ? ops[at] : NOTHING;
        }

        int aAt(int at) {
            return within(at, length) ? as[at] : NOTHING;
        }

        int bAt(int at) {
            return within(at, length) ? bs[at] : NOTHING;
        }

        int nextOf(int at) {
            return within(at, length) ? nexts[at] : NOTHING;
        }

        /** The first GUARD of a TRY that has a KIND, or NOTHING. */
        int guardFor(int tryLine, int kind) {
            int at = nextOf(tryLine);
            for (int i = 0; i < MOST_LINES && opAt(at) == GUARD; i++) {
                if (isUnder(kind, aAt(at))) {
                    return at;
                }
                at = nextOf(at);
            }
            return NOTHING;
        }

        /** The FINISH of a TRY, or its END if it has none. */
        int wayOut(int tryLine) {
            int at = nextOf(tryLine);
            for (int i = 0; i < MOST_LINES && opAt(at) == GUARD; i++) {
                at = nextOf(at);
            }
            return at;
        }
    }

    private static final class Failures {
        private final int[] kinds = new int[MOST_FAILURES];
        private final int[] acts = new int[MOST_FAILURES];
        private final int[] lines = new int[MOST_FAILURES];
        private final int[] parts = new int[MOST_FAILURES];
        private final int[] causes = new int[MOST_FAILURES];
        private final int[] unders = new int[MOST_FAILURES];
        private int count;

        /** The new FAILURE's number, or NOTHING if there are as many as there may be. */
        int add(int kind, int act, int line, int part) {
            if (!within(count, MOST_FAILURES)) {
                return NOTHING;
            }
            kinds[count] = kind;
            acts[count] = act;
            lines[count] = line;
            parts[count] = part;
            causes[count] = NOTHING;
            unders[count] = NOTHING;
            count++;
            return count - 1;
        }

        int kindOf(int i) {
            return within(i, count) ? kinds[i] : NOTHING;
        }

        void giveCause(int i, int cause) {
            if (within(i, count) && causes[i] == NOTHING) {
                causes[i] = cause;
            }
        }

        void suppress(int i, int under) {
            if (within(i, count)) {
                unders[i] = under;
            }
        }

        int told(int i, int what) {
            if (!within(i, count)) {
                return NOTHING;
            }
            switch (what) {
                case 0: return kinds[i];
                case 1: return acts[i];
                case 2: return lines[i];
                case 3: return parts[i];
                case 4: return causes[i];
                default: return unders[i];
            }
        }
    }

    private static final class Loan {
        static final int PLAIN = 0, LONG = 1, SUB = 2;

        private Part part;
        private int sort;
        private boolean open;
        private Loan parent;
        // The OPEN SUB-LOAN: there is one at most, for LEND of a LOAN that has one is TAKEN.
        private Loan sub;
        // The SCOPE that it belongs to, and its neighbours there.
        private Scope scope;
        private Loan before;
        private Loan behind;

        void begin(Part newPart, int newSort, Loan newParent) {
            part = newPart;
            sort = newSort;
            open = true;
            parent = newParent;
            sub = null;
            scope = null;
            before = null;
            behind = null;
            if (newParent != null) {
                newParent.sub = this;
            }
        }

        void moveTo(Scope newScope) {
            leaveScope();
            scope = newScope;
            before = newScope.last;
            if (newScope.last != null) {
                newScope.last.behind = this;
            }
            newScope.last = this;
        }

        void close() {
            open = false;
            leaveScope();
            if (parent != null) {
                parent.sub = null;
            }
        }

        private void leaveScope() {
            if (before != null) {
                before.behind = behind;
            }
            if (behind != null) {
                behind.before = before;
            } else if (scope != null) {
                scope.last = before;
            }
            scope = null;
            before = null;
            behind = null;
        }
    }

    /** A SCOPE that is not ended; its LOANS hang on the last one. */
    private static final class Scope {
        private int act;
        private int line;
        private Loan last;

        void begin(int newAct, int newLine) {
            act = newAct;
            line = newLine;
            last = null;
        }
    }

    /** A BLOCK that is under way, or an ACT as a whole. */
    private static final class Block {
        static final int BODY = 0, WAY = 1, LAST_WAY = 2;

        private int op;
        private int line;
        private int turnsLeft;
        private int phase;
        private int guarded;
        // What was on its way as the LAST WAY began.
        private int kept;
        private int keptFailure;

        void begin(int newOp, int newLine, int turns) {
            op = newOp;
            line = newLine;
            turnsLeft = turns;
            phase = BODY;
            guarded = NOTHING;
            kept = Play.GOING;
            keptFailure = NOTHING;
        }
    }

    /** An ACT under way. */
    private static final class Cast {
        private Script script;
        private int number;
        private int at;
        private final Loan[] slots = new Loan[SLOTS];

        Cast(Script script) {
            this.script = script;
        }

        void begin(Script newScript, int newNumber, Loan first) {
            script = newScript;
            number = newNumber;
            at = 0;
            for (int s = 0; s < SLOTS; s++) {
                slots[s] = null;
            }
            slots[0] = first;
        }

        Loan in(int s) {
            return within(s, SLOTS) ? slots[s] : null;
        }

        void put(int s, Loan loan) {
            if (within(s, SLOTS)) {
                slots[s] = loan;
            }
        }
    }

    /**
     * The latest RUN. Each move does a LINE, or leaves one BLOCK while something is on its way.
     * Place 0 of casts, blocks and scopes is never used, so that there always is a latest one.
     */
    private static final class Play {
        static final int GOING = 0, RETURNING = 1, BREAKING = 2, FAILING = 3, SPENDING = 4;

        private final House house;
        private final Script[] scripts;
        private final Cast[] casts = new Cast[MOST_DEPTH + 1];
        private int castCount;
        private final Block[] blocks = new Block[MOST_BLOCKS + 1];
        private int blockCount;
        private final Scope[] scopes = new Scope[MOST_BLOCKS + 1];
        private int scopeCount;
        private final Loan[] loans = new Loan[MOST_LOANS];
        private int loanCount;
        private final Failures failures = new Failures();
        private int customer;
        private int way;
        private int wayFailure = NOTHING;
        private int steps;
        private int scopesEnded;
        private int letGo;
        private int endedBy;

        Play(House house, Script[] scripts) {
            this.house = house;
            this.scripts = scripts;
            Script none = new Script();
            for (int i = 0; i < casts.length; i++) {
                casts[i] = new Cast(none);
            }
            for (int i = 0; i < blocks.length; i++) {
                blocks[i] = new Block();
                scopes[i] = new Scope();
            }
            for (int i = 0; i < loans.length; i++) {
                loans[i] = new Loan();
            }
        }

        int told(int what) {
            switch (what) {
                case 0: return endedBy;
                case 1: return steps;
                case 2: return failures.count;
                case 3: return loanCount;
                case 4: return scopesEnded;
                case 5: return letGo;
                default: return endedBy == ENDED_FAILING ? wayFailure : NOTHING;
            }
        }

        int perform(int act, int forCustomer) {
            reset(forCustomer);
            enter(findScript(scripts, act), act, null);
            for (int i = 0; i < MOST_MOVES && castCount > 0 && way != SPENDING; i++) {
                Cast cast = casts[castCount];
                int op = cast.script.opAt(cast.at);
                if (way != GOING) {
                    leave(cast);
                } else if (op == NOTHING || op == GUARD || op == FINISH || op == END) {
                    reachMark(cast);
                } else if (step()) {
                    doLine(cast, op);
                }
            }
            if (castCount > 0) {
                spend();
                endedBy = ENDED_SPENT;
            } else {
                endedBy = way == FAILING ? ENDED_FAILING : ENDED;
            }
            return endedBy;
        }

        private void reset(int forCustomer) {
            customer = forCustomer;
            castCount = 0;
            blockCount = 0;
            scopeCount = 0;
            loanCount = 0;
            failures.count = 0;
            way = GOING;
            wayFailure = NOTHING;
            steps = 0;
            scopesEnded = 0;
            letGo = 0;
        }

        /** Counts a STEP, if there may be one more. */
        private boolean step() {
            if (steps >= MOST_STEPS) {
                way = SPENDING;
                return false;
            }
            steps++;
            return true;
        }

        private void enter(Script script, int act, Loan first) {
            if (script != null && castCount < MOST_DEPTH) {
                castCount++;
                casts[castCount].begin(script, act, first);
                push(WHOLE_ACT, NOTHING, 0);
                openScope(act, NOTHING);
            }
        }

        private void push(int op, int line, int turns) {
            if (blockCount < MOST_BLOCKS) {
                blockCount++;
                blocks[blockCount].begin(op, line, turns);
            }
        }

        private void pop() {
            if (blockCount > 0) {
                blockCount--;
            }
        }

        private void openScope(int act, int line) {
            if (scopeCount < MOST_BLOCKS) {
                scopeCount++;
                scopes[scopeCount].begin(act, line);
            }
        }

        // ---- LINES

        private void doLine(Cast cast, int op) {
            int a = cast.script.aAt(cast.at);
            int b = cast.script.bAt(cast.at);
            switch (op) {
                case BORROW: borrow(cast, a, b, Loan.PLAIN); break;
                case TAKE: take(cast, a, b); break;
                case HOLD: borrow(cast, a, b, Loan.LONG); break;
                case USE: use(cast, cast.in(a)); break;
                case BACK: bringBack(cast, cast.in(a)); break;
                case LEND: lendOn(cast, cast.in(a), b); break;
                case PASS: passOn(cast, cast.in(a), b); break;
                case CALL: callAct(cast, a, cast.in(b)); break;
                case FAIL: fail(cast, a, NOTHING); break;
                case RETURN: way = RETURNING; break;
                case BREAK: way = BREAKING; break;
                default: beginBlock(cast, op, a); break;
            }
            if (way == GOING && op <= PASS) {
                cast.at++;
            }
        }

        private void borrow(Cast cast, int s, int p, int sort) {
            Part part = house.find(p);
            if (part == null || part.state != ON_RACK) {
                fail(cast, TAKEN, p);
            } else {
                hire(cast, s, part, sort);
            }
        }

        private void take(Cast cast, int s, int sort) {
            Part part = house.firstOnRack(sort);
            if (part == null) {
                fail(cast, EMPTY, NOTHING);
            } else {
                hire(cast, s, part, Loan.PLAIN);
            }
        }

        private void hire(Cast cast, int s, Part part, int sort) {
            house.giveOut(part, customer, sort == Loan.LONG);
            makeLoan(cast, s, part, sort, null);
            if (sort == Loan.LONG) {
                for (int i = 1; i <= castCount && i <= MOST_DEPTH; i++) {
                    part.addToTrace(casts[i].number, casts[i].at);
                }
            }
        }

        private void makeLoan(Cast cast, int s, Part part, int sort, Loan parent) {
            if (!within(loanCount, MOST_LOANS)) {
                return;
            }
            Loan loan = loans[loanCount];
            loanCount++;
            loan.begin(part, sort, parent);
            if (sort != Loan.LONG) {
                loan.moveTo(scopes[scopeCount]);
            }
            cast.put(s, loan);
        }

        private void use(Cast cast, Loan loan) {
            int misuse = misuseOf(loan, true);
            if (misuse != NOTHING) {
                fail(cast, misuse, partOf(loan));
            } else if (house.plans.meets(partOf(loan), AT_USE)) {
                fail(cast, PLANNED, partOf(loan));
            }
        }

        private void bringBack(Cast cast, Loan loan) {
            int misuse = misuseOf(loan, false);
            if (misuse != NOTHING) {
                fail(cast, misuse, partOf(loan));
            } else if (giveUp(loan, BY_BACK)) {
                fail(cast, TORN, partOf(loan));
            }
        }

        private void lendOn(Cast cast, Loan loan, int t) {
            int misuse = misuseOf(loan, true);
            if (misuse != NOTHING) {
                fail(cast, misuse, partOf(loan));
            } else {
                makeLoan(cast, t, loan.part, Loan.SUB, loan);
            }
        }

        private void passOn(Cast cast, Loan loan, int n) {
            int misuse = misuseOf(loan, false);
            if (misuse != NOTHING) {
                fail(cast, misuse, partOf(loan));
            } else if (loan.sort == Loan.LONG || !within(n, scopeCount)) {
                fail(cast, CLOSED, partOf(loan));
            } else {
                loan.moveTo(scopes[scopeCount - n]);
            }
        }

        private void callAct(Cast cast, int n, Loan first) {
            Script script = findScript(scripts, n);
            if (castCount >= MOST_DEPTH) {
                fail(cast, DEEP, NOTHING);
            } else if (script == null || script.faultNumber() != 0) {
                fail(cast, CLOSED, NOTHING);
            } else {
                enter(script, n, first);
            }
        }

        /** The KIND of MISUSE of a LOAN, or NOTHING; free: it has to be without an OPEN SUB-LOAN. */
        private static int misuseOf(Loan loan, boolean free) {
            if (loan == null || !loan.open) {
                return OVER;
            }
            return free && loan.sub != null ? TAKEN : NOTHING;
        }

        private static int partOf(Loan loan) {
            return loan == null || loan.part == null ? NOTHING : loan.part.number;
        }

        private void fail(Cast cast, int kind, int part) {
            int failed = failures.add(kind, cast.number, cast.at, part);
            wayFailure = failed;
            way = failed == NOTHING ? SPENDING : FAILING;
        }

        /** Gives back an OPEN LOAN with its SUB-LOANS; answers whether its PART was TORN. */
        private boolean giveUp(Loan loan, int how) {
            // No call can tell in which order SUB-LOANS of one LOAN go, so they go from it on.
            Loan each = loan;
            for (int i = 0; i < MOST_LOANS && each != null; i++) {
                Loan next = each.sub;
                each.close();
                each = next;
            }
            return loan.sort != Loan.SUB && loan.part != null && house.takeBack(loan.part, how);
        }

        // ---- BLOCKS

        private void beginBlock(Cast cast, int op, int a) {
            if (op == LOOP && a == 0) {
                cast.at = cast.script.nextOf(cast.at) + 1;
                return;
            }
            push(op, cast.at, op == LOOP ? a - 1 : 0);
            if (op == SCOPE) {
                openScope(cast.number, cast.at);
            }
            cast.at++;
        }

        /** An END, or a GUARD or FINISH that what stands before it comes to, or the end of an ACT. */
        private void reachMark(Cast cast) {
            Block block = blocks[blockCount];
            switch (block.op) {
                case SCOPE: endScopeBlock(cast); break;
                case LOOP: endTurn(cast, block); break;
                case TRY:
                    if (block.phase == Block.LAST_WAY) {
                        endLastWay(cast, block);
                    } else {
                        leaveWay(cast, block);
                    }
                    break;
                default: way = RETURNING; break;
            }
        }

        private void endScopeBlock(Cast cast) {
            endInnermost();
            pop();
            if (way == GOING) {
                cast.at++;
            }
        }

        private void endTurn(Cast cast, Block block) {
            if (block.turnsLeft <= 0) {
                pop();
                cast.at++;
            } else if (step()) {
                block.turnsLeft--;
                cast.at = block.line + 1;
            }
        }

        private void endLastWay(Cast cast, Block block) {
            way = block.kept;
            wayFailure = block.keptFailure;
            pop();
            cast.at++;
        }

        /** Leaves BODY or a WAY of a TRY, on whichever way: to the LAST WAY if there is one. */
        private void leaveWay(Cast cast, Block block) {
            int out = cast.script.wayOut(block.line);
            if (cast.script.opAt(out) != FINISH) {
                pop();
                if (way == GOING) {
                    cast.at = out + 1;
                }
            } else if (step()) {
                block.phase = Block.LAST_WAY;
                block.kept = way;
                block.keptFailure = wayFailure;
                way = GOING;
                wayFailure = NOTHING;
                cast.at = out + 1;
            }
        }

        /** Leaves the latest BLOCK by what is on its way. */
        private void leave(Cast cast) {
            Block block = blocks[blockCount];
            switch (block.op) {
                case SCOPE: endScopeBlock(cast); break;
                case LOOP: leaveLoop(cast, block); break;
                case TRY: leaveTry(cast, block); break;
                default: leaveAct(); break;
            }
        }

        private void leaveLoop(Cast cast, Block block) {
            pop();
            if (way == BREAKING) {
                way = GOING;
                cast.at = cast.script.nextOf(block.line) + 1;
            }
        }

        private void leaveTry(Cast cast, Block block) {
            if (block.phase == Block.LAST_WAY) {
                leaveLastWay(block);
                return;
            }
            if (way == FAILING && block.phase == Block.BODY) {
                int guard = cast.script.guardFor(block.line, failures.kindOf(wayFailure));
                if (guard != NOTHING) {
                    beginWay(cast, block, guard);
                    return;
                }
            }
            if (way == FAILING && block.phase == Block.WAY) {
                failures.giveCause(wayFailure, block.guarded);
            }
            leaveWay(cast, block);
        }

        private void beginWay(Cast cast, Block block, int guard) {
            if (step()) {
                block.phase = Block.WAY;
                block.guarded = wayFailure;
                way = GOING;
                wayFailure = NOTHING;
                cast.at = guard + 1;
            }
        }

        private void leaveLastWay(Block block) {
            if (block.kept == FAILING) {
                if (way == FAILING) {
                    failures.suppress(block.keptFailure, wayFailure);
                } else {
                    letGo++;
                }
            }
            pop();
        }

        private void leaveAct() {
            endInnermost();
            if (way == SPENDING) {
                return;
            }
            pop();
            castCount--;
            if (way == RETURNING) {
                way = GOING;
                casts[castCount].at++;
            }
        }

        // ---- SCOPES

        /** Ends THE INNERMOST; if that is SPENT on the way, it is left to spend() with what is OPEN in it. */
        private void endInnermost() {
            Scope scope = scopes[scopeCount];
            for (int i = 0; i < MOST_LOANS && scope.last != null && way != SPENDING; i++) {
                Loan loan = scope.last;
                if (giveUp(loan, BY_SCOPE)) {
                    failAtEnd(scope, partOf(loan));
                }
            }
            if (way != SPENDING && scopeCount > 0) {
                scopeCount--;
                scopesEnded++;
            }
        }

        private void failAtEnd(Scope scope, int part) {
            int failed = failures.add(TORN, scope.act, scope.line, part);
            if (failed == NOTHING) {
                way = SPENDING;
            } else if (way == FAILING) {
                failures.suppress(failed, wayFailure);
            } else {
                way = FAILING;
                wayFailure = failed;
            }
        }

        private void spend() {
            for (; scopeCount > 0; scopeCount--) {
                Scope scope = scopes[scopeCount];
                for (int i = 0; i < MOST_LOANS && scope.last != null; i++) {
                    giveUp(scope.last, BY_SPENT);
                }
                scopesEnded++;
            }
        }
    }
}
