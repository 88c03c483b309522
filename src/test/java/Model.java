import java.util.ArrayList;
import java.util.List;

/**
 * The document once more, written another way than HireScopes: ACTS are read into trees, a RUN walks
 * the tree by recursion, SPENT is thrown. ModelTest compares the two over many runs of calls.
 */
final class Model {
    static final int NOTHING = -1, UNKNOWN = -101, OUTSIDE = -102, STATE = -103, FULL = -104;

    private static final class Part {
        int number, sort, cents, state;
    }

    private static final class Loan {
        Part part;
        char sort;
        int customer;
        boolean open = true;
        Loan parent;
        List<Loan> subs = new ArrayList<>();
        Scope scope;
        List<int[]> trace = new ArrayList<>();
    }

    private static final class Scope {
        int act, line;
        List<Loan> loans = new ArrayList<>();
    }

    private static final class Plan {
        int part, left, what;
    }

    private static final class Line {
        int op, a, b;
    }

    private static final class Node {
        Line line;
        int at;
        List<Node> body = new ArrayList<>();
        List<Node> ways = new ArrayList<>();
    }

    private static final class Failure {
        int kind, act, line, part;
        Failure cause, under;
    }

    private static final class Way {
        char sort;
        Failure failure;

        Way(char sort, Failure failure) {
            this.sort = sort;
            this.failure = failure;
        }
    }

    private static final class Spent extends RuntimeException {
        Spent() {
            super(null, null, false, false);
        }
    }

    private static final class Frame {
        int act, at;
        Loan[] slots = new Loan[8];
    }

    private final List<Part> parts = new ArrayList<>();
    private final List<Part> dirty = new ArrayList<>();
    private final List<Plan> plans = new ArrayList<>();
    private final List<List<Line>> acts = new ArrayList<>();
    private final List<Loan> leaks = new ArrayList<>();
    private final List<int[]> log = new ArrayList<>();
    private final long[] charged = new long[8];

    private int ended, steps, made, scopesEnded, letGo, customer;
    private List<Failure> failures = new ArrayList<>();
    private Failure endFailure;
    private List<Scope> scopes = new ArrayList<>();
    private List<Frame> frames = new ArrayList<>();

    int part(int sort, int cents) {
        if (sort < 0 || sort > 39 || cents < 0 || cents > 100000) return OUTSIDE;
        if (parts.size() == 60) return FULL;
        Part part = new Part();
        part.number = parts.size();
        part.sort = sort;
        part.cents = cents;
        parts.add(part);
        return part.number;
    }

    int state(int p) {
        return p < 0 || p >= parts.size() ? UNKNOWN : parts.get(p).state;
    }

    int clean(int n) {
        if (n < 0 || n > 60) return OUTSIDE;
        int done = 0;
        while (done < n && !dirty.isEmpty()) {
            dirty.remove(0).state = 0;
            done++;
        }
        return done;
    }

    int cleaning(int i) {
        return i < 0 || i >= dirty.size() ? NOTHING : dirty.get(i).number;
    }

    int plan(int p, int n, int what) {
        if (p < 0 || p >= parts.size()) return UNKNOWN;
        if (n < 1 || n > 20 || what < 0 || what > 1) return OUTSIDE;
        if (plans.size() == 30) return FULL;
        Plan plan = new Plan();
        plan.part = p;
        plan.left = n;
        plan.what = what;
        plans.add(plan);
        return plans.size();
    }

    int plans(boolean gone) {
        int count = plans.size();
        if (gone) plans.clear();
        return count;
    }

    int act() {
        if (acts.size() == 12) return FULL;
        acts.add(new ArrayList<>());
        return acts.size() - 1;
    }

    private boolean noAct(int n) {
        return n < 0 || n >= acts.size();
    }

    int line(int n, int op, int a, int b) {
        if (noAct(n)) return UNKNOWN;
        if (acts.get(n).size() == 40) return FULL;
        Line line = new Line();
        line.op = op;
        line.a = a;
        line.b = b;
        acts.get(n).add(line);
        return acts.get(n).size();
    }

    int wipe(int n) {
        if (noAct(n)) return UNKNOWN;
        int count = acts.get(n).size();
        acts.get(n).clear();
        return count;
    }

    int fault(int n, int what) {
        if (noAct(n)) return UNKNOWN;
        if (what < 0 || what > 1) return OUTSIDE;
        return faultOf(acts.get(n))[what];
    }

    private static boolean in(int number, int low, int high) {
        return number >= low && number <= high;
    }

    private static boolean numbersFit(Line line) {
        int a = line.a, b = line.b;
        switch (line.op) {
            case 0: case 2: return in(a, 0, 7) && in(b, 0, 59);
            case 1: return in(a, 0, 7) && in(b, 0, 39);
            case 3: case 4: return in(a, 0, 7);
            case 5: return in(a, 0, 7) && in(b, 0, 7);
            case 6: return in(a, 0, 7) && in(b, 0, 9);
            case 7: return in(a, 0, 11) && in(b, 0, 7);
            case 8: case 14: return in(a, 0, 11);
            case 11: return in(a, 0, 20);
            case 9: case 10: case 12: case 13: case 15: case 16: return true;
            default: return false;
        }
    }

    /** A stack of letters: L a LOOP, S a SCOPE, T a TRY, F a TRY behind its FINISH. */
    private static int[] faultOf(List<Line> lines) {
        String open = "";
        for (int i = 0; i < lines.size(); i++) {
            Line line = lines.get(i);
            if (!numbersFit(line)) return new int[] {1, i};
            switch (line.op) {
                case 10:
                    if (open.indexOf('L') < 0) return new int[] {4, i};
                    break;
                case 11: case 12: case 13:
                    if (open.length() == 8) return new int[] {3, i};
                    open += "LST".charAt(line.op - 11);
                    break;
                case 14:
                    if (!open.endsWith("T")) return new int[] {2, i};
                    break;
                case 15:
                    if (!open.endsWith("T")) return new int[] {2, i};
                    open = open.substring(0, open.length() - 1) + "F";
                    break;
                case 16:
                    if (open.isEmpty()) return new int[] {2, i};
                    open = open.substring(0, open.length() - 1);
                    break;
                default:
                    break;
            }
        }
        return open.isEmpty() ? new int[] {0, NOTHING} : new int[] {5, lines.size()};
    }

    /** Reads the LINES from at[0] on, up to a GUARD, FINISH or END that none of them takes. */
    private static List<Node> read(List<Line> lines, int[] at) {
        List<Node> nodes = new ArrayList<>();
        while (at[0] < lines.size() && lines.get(at[0]).op < 14) {
            Node node = newNode(lines, at);
            nodes.add(node);
            if (node.line.op >= 11) {
                node.body = read(lines, at);
                while (lines.get(at[0]).op != 16) {
                    Node way = newNode(lines, at);
                    way.body = read(lines, at);
                    node.ways.add(way);
                }
                at[0]++;
            }
        }
        return nodes;
    }

    private static Node newNode(List<Line> lines, int[] at) {
        Node node = new Node();
        node.line = lines.get(at[0]);
        node.at = at[0];
        at[0]++;
        return node;
    }

    int run(int n, int c) {
        if (noAct(n) || c < 0 || c > 7) return UNKNOWN;
        if (faultOf(acts.get(n))[0] != 0) return STATE;
        customer = c;
        steps = made = scopesEnded = letGo = 0;
        failures = new ArrayList<>();
        scopes = new ArrayList<>();
        frames = new ArrayList<>();
        endFailure = null;
        try {
            Way way = doAct(n, null);
            endFailure = way.failure;
            ended = way.sort == 'F' ? 1 : 0;
        } catch (Spent spent) {
            ended = 2;
            while (!scopes.isEmpty()) {
                Scope scope = scopes.get(scopes.size() - 1);
                while (!scope.loans.isEmpty()) giveBack(scope.loans.get(scope.loans.size() - 1), 2);
                scopes.remove(scopes.size() - 1);
                scopesEnded++;
            }
        }
        return ended;
    }

    private Way doAct(int n, Loan first) {
        Frame frame = new Frame();
        frame.act = n;
        frame.slots[0] = first;
        frames.add(frame);
        openScope(n, NOTHING);
        Way way = doAll(frame, read(acts.get(n), new int[1]));
        way = endScope(way);
        frames.remove(frames.size() - 1);
        return way.sort == 'R' ? new Way('E', null) : way;
    }

    private void openScope(int act, int line) {
        Scope scope = new Scope();
        scope.act = act;
        scope.line = line;
        scopes.add(scope);
    }

    private Way endScope(Way way) {
        Scope scope = scopes.get(scopes.size() - 1);
        Way onWay = way;
        while (!scope.loans.isEmpty()) {
            Loan loan = scope.loans.get(scope.loans.size() - 1);
            if (giveBack(loan, 1)) {
                Failure torn = newFailure(6, scope.act, scope.line, loan.part.number);
                if (onWay.failure == null) onWay = new Way('F', torn);
                else torn.under = onWay.failure;
            }
        }
        scopes.remove(scopes.size() - 1);
        scopesEnded++;
        return onWay;
    }

    private void step() {
        if (steps == 160) throw new Spent();
        steps++;
    }

    private Failure newFailure(int kind, int act, int line, int part) {
        if (failures.size() == 16) throw new Spent();
        Failure failure = new Failure();
        failure.kind = kind;
        failure.act = act;
        failure.line = line;
        failure.part = part;
        failures.add(failure);
        return failure;
    }

    private Way doAll(Frame frame, List<Node> nodes) {
        for (Node node : nodes) {
            frame.at = node.at;
            step();
            Way way = doOne(frame, node);
            if (way.sort != 'E') return way;
        }
        return new Way('E', null);
    }

    private Way failing(Frame frame, int kind, int part) {
        return new Way('F', newFailure(kind, frame.act, frame.at, part));
    }

    private Way doOne(Frame frame, Node node) {
        int a = node.line.a, b = node.line.b;
        switch (node.line.op) {
            case 0: return hire(frame, a, b, 'P');
            case 1:
                for (Part part : parts) {
                    if (part.sort == b && part.state == 0) return hire(frame, a, part.number, 'P');
                }
                return failing(frame, 7, NOTHING);
            case 2: return hire(frame, a, b, 'L');
            case 3: case 4: case 5: case 6: return withLoan(frame, node.line.op, frame.slots[a], b);
            case 7: return call(frame, a, b);
            case 8: return failing(frame, a, NOTHING);
            case 9: return new Way('R', null);
            case 10: return new Way('B', null);
            case 11: return loop(frame, node);
            case 12:
                openScope(frame.act, node.at);
                return endScope(doAll(frame, node.body));
            default: return attempt(frame, node);
        }
    }

    private Way hire(Frame frame, int s, int p, char sort) {
        if (p >= parts.size() || parts.get(p).state != 0) return failing(frame, 2, p);
        Loan loan = newLoan(frame, s, parts.get(p), sort);
        loan.part.state = 1;
        if (sort == 'L') {
            leaks.add(loan);
            for (Frame each : frames) loan.trace.add(new int[] {each.act, each.at});
        }
        return new Way('E', null);
    }

    private Loan newLoan(Frame frame, int s, Part part, char sort) {
        Loan loan = new Loan();
        loan.part = part;
        loan.sort = sort;
        loan.customer = customer;
        made++;
        if (sort != 'L') {
            loan.scope = scopes.get(scopes.size() - 1);
            loan.scope.loans.add(loan);
        }
        frame.slots[s] = loan;
        return loan;
    }

    private Way withLoan(Frame frame, int op, Loan loan, int b) {
        if (loan == null) return failing(frame, 3, NOTHING);
        int p = loan.part.number;
        if (!loan.open) return failing(frame, 3, p);
        boolean lent = false;
        for (Loan sub : loan.subs) lent |= sub.open;
        if (lent && (op == 3 || op == 5)) return failing(frame, 2, p);
        if (op == 3 && meets(p, 0)) return failing(frame, 5, p);
        if (op == 4 && giveBack(loan, 0)) return failing(frame, 6, p);
        if (op == 5) {
            Loan sub = newLoan(frame, b, loan.part, 'S');
            sub.parent = loan;
            loan.subs.add(sub);
        }
        if (op == 6) {
            if (loan.sort == 'L' || b >= scopes.size()) return failing(frame, 4, p);
            loan.scope.loans.remove(loan);
            loan.scope = scopes.get(scopes.size() - 1 - b);
            loan.scope.loans.add(loan);
        }
        return new Way('E', null);
    }

    private Way call(Frame frame, int n, int s) {
        if (frames.size() > 9) return failing(frame, 8, NOTHING);
        if (n >= acts.size() || faultOf(acts.get(n))[0] != 0) return failing(frame, 4, NOTHING);
        return doAct(n, frame.slots[s]);
    }

    private Way loop(Frame frame, Node node) {
        for (int turn = 0; turn < node.line.a; turn++) {
            if (turn > 0) step();
            Way way = doAll(frame, node.body);
            if (way.sort == 'B') break;
            if (way.sort != 'E') return way;
        }
        return new Way('E', null);
    }

    private static final String[] ABOVE = {"0", "1 0", "2 1 0", "3 1 0", "4 1 0", "5 0", "6 5 0", "7 0", "8 0", "9 0",
        "10 9 0", "11 5 0"};

    private static boolean has(int guard, int kind) {
        return (" " + ABOVE[kind] + " ").contains(" " + guard + " ");
    }

    private Way attempt(Frame frame, Node node) {
        Way way = doAll(frame, node.body);
        if (way.sort == 'F') {
            for (Node guard : node.ways) {
                if (guard.line.op == 14 && has(guard.line.a, way.failure.kind)) {
                    Failure guarded = way.failure;
                    step();
                    way = doAll(frame, guard.body);
                    if (way.failure != null && way.failure.cause == null) way.failure.cause = guarded;
                    break;
                }
            }
        }
        for (Node finish : node.ways) {
            if (finish.line.op == 15) {
                step();
                Way last = doAll(frame, finish.body);
                if (last.sort != 'E') {
                    if (way.failure != null && last.failure != null) way.failure.under = last.failure;
                    if (way.failure != null && last.failure == null) letGo++;
                    way = last;
                }
            }
        }
        return way;
    }

    private boolean meets(int p, int what) {
        boolean met = false;
        for (Plan plan : new ArrayList<>(plans)) {
            if (plan.part == p && plan.what == what) {
                plan.left--;
                if (plan.left == 0) {
                    plans.remove(plan);
                    met = true;
                }
            }
        }
        return met;
    }

    private boolean giveBack(Loan loan, int how) {
        for (int i = loan.subs.size() - 1; i >= 0; i--) {
            if (loan.subs.get(i).open) giveBack(loan.subs.get(i), how);
        }
        loan.open = false;
        if (loan.scope != null) loan.scope.loans.remove(loan);
        if (loan.sort == 'S') return false;
        leaks.remove(loan);
        boolean torn = meets(loan.part.number, 1);
        if (torn) {
            loan.part.state = 3;
            charged[loan.customer] += loan.part.cents;
        } else {
            loan.part.state = 2;
            dirty.add(loan.part);
        }
        log.add(0, new int[] {loan.part.number, how, torn ? 1 : 0});
        if (log.size() > 60) log.remove(60);
        return torn;
    }

    int ran(int what) {
        switch (what) {
            case 0: return ended;
            case 1: return steps;
            case 2: return failures.size();
            case 3: return made;
            case 4: return scopesEnded;
            case 5: return letGo;
            case 6: return number(endFailure);
            default: return OUTSIDE;
        }
    }

    private int number(Failure failure) {
        return failure == null ? NOTHING : failures.indexOf(failure);
    }

    int failure(int i, int what) {
        if (i < 0 || i >= failures.size()) return UNKNOWN;
        Failure failure = failures.get(i);
        switch (what) {
            case 0: return failure.kind;
            case 1: return failure.act;
            case 2: return failure.line;
            case 3: return failure.part;
            case 4: return number(failure.cause);
            case 5: return number(failure.under);
            default: return OUTSIDE;
        }
    }

    int leaks() {
        return leaks.size();
    }

    int leak(int i, int what) {
        if (i < 0 || i >= leaks.size()) return UNKNOWN;
        Loan loan = leaks.get(i);
        switch (what) {
            case 0: return loan.part.number;
            case 1: return loan.customer;
            case 2: return loan.trace.size();
            default: return OUTSIDE;
        }
    }

    int trace(int i, int k, int what) {
        if (i < 0 || i >= leaks.size()) return UNKNOWN;
        List<int[]> trace = leaks.get(i).trace;
        if (k < 0 || k >= trace.size()) return UNKNOWN;
        return what < 0 || what > 1 ? OUTSIDE : trace.get(k)[what];
    }

    int giveBack(int i) {
        if (i < 0 || i >= leaks.size()) return UNKNOWN;
        return giveBack(leaks.get(i), 3) ? 0 : 1;
    }

    long cents(int c, int what) {
        if (c < 0 || c > 7) return UNKNOWN;
        if (what < 0 || what > 1) return OUTSIDE;
        if (what == 1) return charged[c];
        long sum = 0;
        for (Loan loan : leaks) sum += loan.customer == c ? loan.part.cents : 0;
        return sum;
    }

    int log(int i, int what) {
        if (what < 0 || what > 2) return OUTSIDE;
        return i < 0 || i >= log.size() ? NOTHING : log.get(i)[what];
    }
}
