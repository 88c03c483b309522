/** Writes the LINES of one ACT by the names of their OPS. What an OP does not look at is given an odd number. */
final class Lines {
    private static final int ODD = Integer.MIN_VALUE;

    private final HireScopes x;
    final int act;

    private Lines(HireScopes x, int act) {
        this.x = x;
        this.act = act;
    }

    /** The LINES of a new ACT. */
    static Lines of(HireScopes x) {
        return new Lines(x, x.act());
    }

    /** The LINES of an ACT that is wiped first. */
    static Lines anew(HireScopes x, int act) {
        x.wipe(act);
        return new Lines(x, act);
    }

    Lines add(int op, int a, int b) {
        x.line(act, op, a, b);
        return this;
    }

    Lines borrow(int s, int p) {
        return add(0, s, p);
    }

    Lines take(int s, int n) {
        return add(1, s, n);
    }

    Lines hold(int s, int p) {
        return add(2, s, p);
    }

    Lines use(int s) {
        return add(3, s, ODD);
    }

    Lines back(int s) {
        return add(4, s, ODD);
    }

    Lines lend(int s, int t) {
        return add(5, s, t);
    }

    Lines pass(int s, int n) {
        return add(6, s, n);
    }

    Lines call(int n, int s) {
        return add(7, n, s);
    }

    Lines fail(int k) {
        return add(8, k, ODD);
    }

    Lines returns() {
        return add(9, ODD, ODD);
    }

    Lines breaks() {
        return add(10, ODD, ODD);
    }

    Lines loop(int n) {
        return add(11, n, ODD);
    }

    Lines scope() {
        return add(12, ODD, ODD);
    }

    Lines tries() {
        return add(13, ODD, ODD);
    }

    Lines guard(int k) {
        return add(14, k, ODD);
    }

    Lines finish() {
        return add(15, ODD, ODD);
    }

    Lines end() {
        return add(16, ODD, ODD);
    }

    /** The same LINE so many times. */
    Lines times(int count, int op, int a, int b) {
        for (int i = 0; i < count; i++) {
            add(op, a, b);
        }
        return this;
    }

    Lines uses(int count, int s) {
        return times(count, 3, s, ODD);
    }

    Lines scopes(int count) {
        return times(count, 12, ODD, ODD);
    }

    Lines ends(int count) {
        return times(count, 16, ODD, ODD);
    }
}
