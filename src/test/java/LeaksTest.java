/** Promises 15 to 20: leaks, leak, trace, giveBack, cents, log. */
public final class LeaksTest {
    public static void main(String[] args) {
        leaks();
        traces();
        deepTrace();
        deposits();
        logOf60();
        mostLeaks();
        Due.end();
    }

    private static HireScopes house(int parts) {
        HireScopes x = new HireScopes();
        for (int p = 0; p < parts; p++) {
            x.part(0, 10 * (p + 1));
        }
        return x;
    }

    /** LEAKS in order, over RUNS, whatever a RUN ends by; one that is given back is none. */
    private static void leaks() {
        HireScopes x = house(5);
        int n = Due.script(x, 2, 0, 3, 2, 1, 1, 2, 2, 2, 4, 1, 0, 8, 0, 0);
        Due.due("run", 1, x.run(n, 5));
        x.wipe(n);
        Due.add(x, n, 12, 0, 0, 2, 0, 0, 16, 0, 0, 5, 0, 1);
        Due.due("run", 0, x.run(n, 6));
        Due.due("leaks()", 3, x.leaks());
        int[] parts = {3, 2, 0};
        int[] customers = {5, 5, 6};
        for (int i = 0; i < 3; i++) {
            Due.due("leak(" + i + ", 0)", parts[i], x.leak(i, 0));
            Due.due("leak(" + i + ", 1)", customers[i], x.leak(i, 1));
            Due.due("leak(" + i + ", 2)", 1, x.leak(i, 2));
        }
        Due.due("leak(3, 0)", HireScopes.UNKNOWN, x.leak(3, 0));
        Due.due("leak(-1, 0)", HireScopes.UNKNOWN, x.leak(-1, 0));
        Due.due("leak(3, 3)", HireScopes.UNKNOWN, x.leak(3, 3));
        Due.due("leak(0, 3)", HireScopes.OUTSIDE, x.leak(0, 3));
        Due.due("leak(0, -1)", HireScopes.OUTSIDE, x.leak(0, -1));
        Due.due("giveBack(3)", HireScopes.UNKNOWN, x.giveBack(3));
        Due.due("giveBack(-1)", HireScopes.UNKNOWN, x.giveBack(-1));
        Due.due("giveBack(1)", 1, x.giveBack(1));
        Due.log(x, "giveBack(1)", 0, 2, 3, 0);
        Due.due("leaks()", 2, x.leaks());
        Due.due("leak(1, 0)", 0, x.leak(1, 0));
        Due.due("cleaning(1)", 2, x.cleaning(1));
        x.plan(0, 1, 1);
        Due.due("giveBack(1), TORN", 0, x.giveBack(1));
        Due.log(x, "giveBack(1), TORN", 0, 0, 3, 1);
        Due.due("state(0)", 3, x.state(0));
        Due.due("cents(6, 1)", 10, x.cents(6, 1));
        Due.due("plans", 0, x.plans(false));
        // the latest RUN is told as before
        Due.ran(x, "the latest RUN", 0, 3, 0, 2, 2, 0, -1);
        Due.due("giveBack(0)", 1, x.giveBack(0));
        Due.due("leaks()", 0, x.leaks());
    }

    private static void traces() {
        HireScopes x = house(3);
        int first = Due.script(x, 13, 0, 0, 7, 2, 0, 14, 0, 0, 7, 1, 0, 16, 0, 0, 2, 0, 2);
        int second = Due.script(x, 11, 1, 0, 12, 0, 0, 2, 3, 1, 16, 0, 0, 16, 0, 0);
        int third = Due.script(x, 12, 0, 0, 2, 0, 0, 16, 0, 0, 8, 9, 0);
        Due.due("run", 0, x.run(first, 0));
        int[][] traces = {{first, 1, third, 1}, {first, 3, second, 2}, {first, 5}};
        Due.due("leaks()", 3, x.leaks());
        x.wipe(first);
        for (int i = 0; i < 3; i++) {
            int[] trace = traces[i];
            Due.due("leak(" + i + ", 2)", trace.length / 2, x.leak(i, 2));
            for (int k = 0; k < trace.length / 2; k++) {
                Due.due("trace(" + i + ", " + k + ", 0)", trace[2 * k], x.trace(i, k, 0));
                Due.due("trace(" + i + ", " + k + ", 1)", trace[2 * k + 1], x.trace(i, k, 1));
            }
            Due.due("a trace's end", HireScopes.UNKNOWN, x.trace(i, trace.length / 2, 0));
        }
        Due.due("trace(3, 0, 0)", HireScopes.UNKNOWN, x.trace(3, 0, 0));
        Due.due("trace(-1, 0, 0)", HireScopes.UNKNOWN, x.trace(-1, 0, 0));
        Due.due("trace(0, -1, 0)", HireScopes.UNKNOWN, x.trace(0, -1, 0));
        Due.due("trace(0, 2, 9)", HireScopes.UNKNOWN, x.trace(0, 2, 9));
        Due.due("trace(0, 0, 2)", HireScopes.OUTSIDE, x.trace(0, 0, 2));
        Due.due("trace(0, 0, -1)", HireScopes.OUTSIDE, x.trace(0, 0, -1));
        // a PART that is held again has the new TRACE alone
        x.giveBack(0);
        x.clean(60);
        Due.add(x, first, 2, 0, 0);
        x.run(first, 7);
        Due.due("leak(2, 0)", 0, x.leak(2, 0));
        Due.due("leak(2, 1)", 7, x.leak(2, 1));
        Due.due("leak(2, 2)", 1, x.leak(2, 2));
        Due.due("trace(2, 0, 1)", 0, x.trace(2, 0, 1));
    }

    private static void deepTrace() {
        HireScopes x = house(1);
        for (int n = 0; n < 10; n++) {
            Due.script(x, 12, 0, 0, n < 9 ? 7 : 2, n < 9 ? n + 1 : 0, 0, 16, 0, 0);
        }
        Due.due("run", 0, x.run(0, 0));
        Due.due("leak(0, 2)", 10, x.leak(0, 2));
        for (int k = 0; k < 10; k++) {
            Due.due("trace(0, " + k + ", 0)", k, x.trace(0, k, 0));
            Due.due("trace(0, " + k + ", 1)", 1, x.trace(0, k, 1));
        }
    }

    private static void deposits() {
        HireScopes x = house(4);
        int n = Due.script(x, 2, 0, 0, 2, 1, 1, 0, 2, 2);
        x.run(n, 7);
        x.wipe(n);
        Due.add(x, n, 2, 0, 3);
        x.run(n, 1);
        Due.due("cents(7, 0)", 30, x.cents(7, 0));
        Due.due("cents(1, 0)", 40, x.cents(1, 0));
        Due.due("cents(0, 0)", 0, x.cents(0, 0));
        Due.due("cents(7, 1)", 0, x.cents(7, 1));
        x.plan(1, 1, 1);
        Due.due("giveBack", 0, x.giveBack(1));
        Due.due("giveBack", 1, x.giveBack(0));
        Due.due("cents(7, 0)", 0, x.cents(7, 0));
        Due.due("cents(7, 1)", 20, x.cents(7, 1));
        x.plan(2, 1, 1);
        x.clean(60);
        x.wipe(n);
        Due.add(x, n, 0, 0, 2);
        x.run(n, 7);
        Due.due("cents(7, 1)", 50, x.cents(7, 1));
        Due.due("cents(1, 1)", 0, x.cents(1, 1));
        Due.due("cents(8, 0)", HireScopes.UNKNOWN, x.cents(8, 0));
        Due.due("cents(-1, 2)", HireScopes.UNKNOWN, x.cents(-1, 2));
        Due.due("cents(0, 2)", HireScopes.OUTSIDE, x.cents(0, 2));
        Due.due("cents(0, -1)", HireScopes.OUTSIDE, x.cents(0, -1));
    }

    /** THE LOG has the latest 60. */
    private static void logOf60() {
        HireScopes x = house(4);
        int n = Due.script(x, 0, 0, 0, 0, 1, 1, 4, 0, 0);
        for (int i = 0; i < 29; i++) {
            x.run(n, 0);
            x.clean(60);
        }
        Due.due("log(57, 0)", 0, x.log(57, 0));
        Due.due("log(58, 0)", HireScopes.NOTHING, x.log(58, 0));
        x.wipe(n);
        Due.add(x, n, 0, 0, 2, 0, 0, 3);
        x.run(n, 0);
        Due.due("log(59, 0)", 0, x.log(59, 0));
        Due.due("log(0, 0)", 2, x.log(0, 0));
        Due.due("log(1, 0)", 3, x.log(1, 0));
        x.clean(60);
        x.plan(2, 1, 1);
        x.run(n, 0);
        Due.due("log(59, 0)", 0, x.log(59, 0));
        Due.due("log(59, 1)", 0, x.log(59, 1));
        Due.due("log(58, 0)", 1, x.log(58, 0));
        Due.due("log(58, 1)", 1, x.log(58, 1));
        Due.due("log(60, 0)", HireScopes.NOTHING, x.log(60, 0));
        Due.due("log(-1, 0)", HireScopes.NOTHING, x.log(-1, 0));
        Due.due("log(-1, 3)", HireScopes.OUTSIDE, x.log(-1, 3));
        Due.due("log(0, 3)", HireScopes.OUTSIDE, x.log(0, 3));
        Due.due("log(0, -1)", HireScopes.OUTSIDE, x.log(0, -1));
        Due.log(x, "the latest", 0, 2, 1, 1);
        Due.log(x, "before it", 1, 3, 1, 0);
        Due.log(x, "the RUN before", 2, 2, 1, 0);
    }

    /** 60 LEAKS, of all PARTS there may be. */
    private static void mostLeaks() {
        HireScopes x = house(60);
        int n = x.act();
        for (int from = 0; from < 60; from += 30) {
            x.wipe(n);
            for (int p = from; p < from + 30; p++) {
                x.line(n, 2, p % 8, p);
            }
            Due.due("run", 0, x.run(n, 3));
        }
        Due.due("leaks()", 60, x.leaks());
        Due.due("leak(59, 0)", 59, x.leak(59, 0));
        Due.due("cents(3, 0)", 18300, x.cents(3, 0));
        for (int i = 59; i >= 0; i--) {
            Due.due("giveBack(" + i + ")", 1, x.giveBack(i));
        }
        Due.due("log(59, 0)", 59, x.log(59, 0));
        Due.due("cleaning(59)", 0, x.cleaning(59));
        Due.due("clean(60)", 60, x.clean(60));
    }
}
