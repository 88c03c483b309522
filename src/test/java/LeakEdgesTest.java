/** ==== 4 of the document, TRACES, and promises 14 to 20: the edges, each in a test of its own. */
public final class LeakEdgesTest {
    private static final int NOTHING = HireScopes.NOTHING, UNKNOWN = HireScopes.UNKNOWN, OUTSIDE = HireScopes.OUTSIDE;
    private static final int MIN = Integer.MIN_VALUE, MAX = Integer.MAX_VALUE;

    public static void main(String[] args) {
        failureBounds();
        failuresOfTheLatestRun();
        lineAndPartOfEachFailure();
        noLeaks();
        leaksInOrder();
        leaksOfEachEnd();
        leaksThatWereGivenBackInTheRun();
        leakBounds();
        sixtyLeaks();
        traceOfOne();
        traceOfTen();
        traceWhereTheActsAre();
        traceBounds();
        traceStays();
        giveBackBounds();
        givenBackGoesToTheCleaning();
        givenBackTorn();
        depositBounds();
        depositOfHisLoans();
        chargedByEachGivingBack();
        logIsEmpty();
        logTellsHow();
        logOfEachCount();
        logBounds();
        theLastCall();
        Due.end();
    }

    /** failure: "UNKNOWN (there is none such), OUTSIDE"; the first and the last of 16. */
    private static void failureBounds() {
        HireScopes x = new HireScopes();
        Due.due("failure(0, 0) before a RUN", UNKNOWN, x.failure(0, 0));
        Due.due("failure(0, 6) before a RUN", UNKNOWN, x.failure(0, 6));
        int n = Lines.of(x).act;
        x.run(n, 0);
        Due.due("failure(0, 0) of none", UNKNOWN, x.failure(0, 0));
        for (int count = 1; count <= 16; count += 15) {
            Lines.anew(x, n).loop(count).tries().fail(11).guard(11).end().end();
            x.run(n, 0);
            Due.failure(x, "the first", 0, 11, n, 2, NOTHING, NOTHING, NOTHING);
            Due.failure(x, "the last", count - 1, 11, n, 2, NOTHING, NOTHING, NOTHING);
            int[] unknown = {MIN, -1, count, 17, MAX};
            for (int i : unknown) {
                Due.due("failure(" + i + ", 0)", UNKNOWN, x.failure(i, 0));
                Due.due("failure(" + i + ", 5)", UNKNOWN, x.failure(i, 5));
                Due.due("failure(" + i + ", 6)", UNKNOWN, x.failure(i, 6));
            }
            int[] outside = {MIN, -1, 6, MAX};
            for (int what : outside) {
                Due.due("failure(0, " + what + ")", OUTSIDE, x.failure(0, what));
                Due.due("failure(last, " + what + ")", OUTSIDE, x.failure(count - 1, what));
            }
        }
    }

    /** "FAILURE i of the latest RUN"; a refused run is none, giveBack() adds none. */
    private static void failuresOfTheLatestRun() {
        HireScopes x = Due.house(1);
        x.plan(0, 1, 1);
        int n = Lines.of(x).hold(0, 0).fail(4).act;
        int bad = Lines.of(x).end().act;
        x.run(n, 0);
        x.run(bad, 0);
        x.run(n, 8);
        x.run(9, 0);
        x.giveBack(0);
        Due.ran(x, "the latest RUN", 1, 2, 1, 1, 1, 0, 0);
        Due.failure(x, "the latest RUN", 0, 4, n, 1, NOTHING, NOTHING, NOTHING);
        Due.due("failure(1, 0)", UNKNOWN, x.failure(1, 0));
    }

    /** "FAILURES are numbered as they come: KIND; ACT; LINE ..; PART ..": one of each KIND that a LINE FAILS by. */
    private static void lineAndPartOfEachFailure() {
        HireScopes x = Due.house(5);
        int[][] ops = {{0, 7, 59}, {2, 7, 0}, {1, 7, 39}, {3, 1, 0}, {5, 1, 2}, {3, 7, 0}};
        int[] kinds = {2, 2, 7, 2, 2, 3};
        int[] parts = {59, 0, NOTHING, 0, 0, NOTHING};
        each(x, ops, kinds, parts);
        int[][] more = {{4, 3, 0}, {6, 0, 9}, {7, 11, 0}, {8, 6, 0}, {3, 4, 0}, {4, 5, 0}};
        int[] moreKinds = {3, 4, 4, 6, 5, 6};
        int[] moreParts = {2, 1, NOTHING, NOTHING, 3, 4};
        x.clean(60);
        x.plan(3, 1, 0);
        x.plan(4, 1, 1);
        each(x, more, moreKinds, moreParts);
    }

    private static void each(HireScopes x, int[][] ops, int[] kinds, int[] parts) {
        Lines lines = Lines.of(x).borrow(1, 0).lend(1, 2).borrow(0, 1).borrow(3, 2).back(3).borrow(4, 3).borrow(5, 4);
        for (int[] op : ops) {
            lines.tries().add(op[0], op[1], op[2]).guard(0).end();
        }
        Due.due("each KIND", 0, x.run(lines.act, 0));
        for (int i = 0; i < ops.length; i++) {
            Due.failure(x, "OP " + ops[i][0], i, kinds[i], lines.act, 8 + 4 * i, parts[i], NOTHING, NOTHING);
        }
    }

    /** "UNKNOWN (no such .. thing)": of LEAKS that are none, at first and when all were given back. */
    private static void noLeaks() {
        HireScopes x = Due.house(1);
        for (int i = 0; i < 2; i++) {
            Due.due("leaks()", 0, x.leaks());
            int[] unknown = {MIN, -1, 0, 1, MAX};
            for (int leak : unknown) {
                Due.due("leak(" + leak + ", 0)", UNKNOWN, x.leak(leak, 0));
                Due.due("leak(" + leak + ", 3)", UNKNOWN, x.leak(leak, 3));
                Due.due("trace(" + leak + ", 0, 0)", UNKNOWN, x.trace(leak, 0, 0));
                Due.due("giveBack(" + leak + ")", UNKNOWN, x.giveBack(leak));
            }
            x.run(Lines.of(x).hold(0, 0).act, 0);
            Due.due("leaks()", 1, x.leaks());
            Due.due("giveBack(0)", 1, x.giveBack(0));
            x.clean(60);
        }
    }

    /** "LEAKS, in order": as the LOANS were made, over RUNS and CUSTOMERS; what is given back leaves no gap. */
    private static void leaksInOrder() {
        HireScopes x = Due.house(6);
        x.run(Lines.of(x).hold(0, 4).hold(0, 1).act, 2);
        x.run(Lines.of(x).hold(0, 5).hold(0, 0).hold(0, 2).act, 1);
        leaks(x, 4, 1, 5, 0, 2);
        int[] customers = {2, 2, 1, 1, 1};
        for (int i = 0; i < 5; i++) {
            Due.due("CUSTOMER of LEAK " + i, customers[i], x.leak(i, 1));
        }
        x.giveBack(2);
        leaks(x, 4, 1, 0, 2);
        x.giveBack(0);
        leaks(x, 1, 0, 2);
        x.giveBack(2);
        leaks(x, 1, 0);
        x.clean(60);
        x.run(Lines.of(x).hold(0, 4).act, 7);
        leaks(x, 1, 0, 4);
    }

    private static void leaks(HireScopes x, int... parts) {
        Due.due("leaks()", parts.length, x.leaks());
        for (int i = 0; i < parts.length; i++) {
            Due.due("PART of LEAK " + i, parts[i], x.leak(i, 0));
        }
        Due.due("the LEAK behind the last", UNKNOWN, x.leak(parts.length, 0));
    }

    /** "LONG LOANS stay OPEN behind the RUN", whatever it ends by. */
    private static void leaksOfEachEnd() {
        for (int end = 0; end <= 2; end++) {
            HireScopes x = Due.house(1);
            Lines lines = Lines.of(x).scope().hold(0, 0).loop(20).loop(20);
            if (end < 2) {
                lines.add(9 - end, 0, 0);
            }
            lines.ends(3);
            Due.due("run", end, x.run(lines.act, 0));
            leaks(x, 0);
            Due.due("STATE", 1, x.state(0));
        }
    }

    /** "LONG LOANS stay OPEN behind the RUN": one that BACK gave back is no LEAK. */
    private static void leaksThatWereGivenBackInTheRun() {
        HireScopes x = Due.house(3);
        int n = Lines.of(x).hold(0, 0).hold(1, 1).hold(2, 2).back(1).act;
        Due.due("run", 0, x.run(n, 0));
        leaks(x, 0, 2);
        Due.log(x, "by BACK", 0, 1, 0, 0);
        Due.log(x, "by BACK", 1, NOTHING);
    }

    /** leak: "0 its PART, 1 CUSTOMER, 2 how many ACTS its TRACE has. UNKNOWN, OUTSIDE." */
    private static void leakBounds() {
        HireScopes x = Due.house(2);
        x.run(Lines.of(x).hold(0, 1).hold(0, 0).act, 7);
        for (int i = 0; i < 2; i++) {
            Due.due("PART", 1 - i, x.leak(i, 0));
            Due.due("CUSTOMER", 7, x.leak(i, 1));
            Due.due("TRACE", 1, x.leak(i, 2));
            int[] outside = {MIN, -1, 3, MAX};
            for (int what : outside) {
                Due.due("leak(" + i + ", " + what + ")", OUTSIDE, x.leak(i, what));
            }
        }
        int[] unknown = {MIN, -1, 2, 59, 60, MAX};
        for (int i : unknown) {
            Due.due("leak(" + i + ", 0)", UNKNOWN, x.leak(i, 0));
            Due.due("leak(" + i + ", 2)", UNKNOWN, x.leak(i, 2));
            Due.due("leak(" + i + ", 3)", UNKNOWN, x.leak(i, 3));
        }
    }

    /** "leaks(): How many LEAKS": as many as there may be PARTS, the first and the last of them. */
    private static void sixtyLeaks() {
        HireScopes x = Due.house(60);
        int n = x.act();
        for (int from = 0; from < 60; from += 20) {
            Lines lines = Lines.anew(x, n);
            for (int p = from; p < from + 20; p++) {
                lines.hold(0, 59 - p);
            }
            Due.due("run", 0, x.run(n, from / 20));
        }
        Due.due("leaks()", 60, x.leaks());
        Due.due("the first", 59, x.leak(0, 0));
        Due.due("the last", 0, x.leak(59, 0));
        Due.due("CUSTOMER of the last", 2, x.leak(59, 1));
        Due.due("the 61st", UNKNOWN, x.leak(60, 0));
        Due.due("giveBack(60)", UNKNOWN, x.giveBack(60));
        Due.due("giveBack(59)", 1, x.giveBack(59));
        Due.due("giveBack(0)", 1, x.giveBack(0));
        Due.due("leaks()", 58, x.leaks());
        Due.due("the first", 58, x.leak(0, 0));
        Due.due("the last", 1, x.leak(57, 0));
    }

    private static void trace(HireScopes x, int i, int... actsAndLines) {
        Due.due("TRACE of LEAK " + i, actsAndLines.length / 2, x.leak(i, 2));
        for (int k = 0; k < actsAndLines.length / 2; k++) {
            Due.due("ACT " + k + " of LEAK " + i, actsAndLines[2 * k], x.trace(i, k, 0));
            Due.due("LINE " + k + " of LEAK " + i, actsAndLines[2 * k + 1], x.trace(i, k, 1));
        }
        Due.due("behind the TRACE of LEAK " + i, UNKNOWN, x.trace(i, actsAndLines.length / 2, 0));
    }

    /** "the ACTS under way as it was made": one; in its first and its 40th LINE. */
    private static void traceOfOne() {
        HireScopes x = Due.house(3);
        Lines.of(x);
        int n = Lines.of(x).hold(0, 0).uses(37, 0).hold(1, 2).hold(2, 1).act;
        Due.due("run", 0, x.run(n, 0));
        trace(x, 0, n, 0);
        trace(x, 1, n, 38);
        trace(x, 2, n, 39);
    }

    /** Ten ACTS under way, "the outermost first". */
    private static void traceOfTen() {
        HireScopes x = Due.house(2);
        Lines.of(x);
        for (int n = 1; n <= 9; n++) {
            Lines.of(x).scopes(n % 4).call(n + 1, 0).ends(n % 4);
        }
        Lines.of(x).hold(0, 0).hold(0, 1);
        Due.due("run", 0, x.run(1, 0));
        trace(x, 0, 1, 1, 2, 2, 3, 3, 4, 0, 5, 1, 6, 2, 7, 3, 8, 0, 9, 1, 10, 0);
        Due.due("the LINE of the innermost", 1, x.trace(1, 9, 1));
        Due.due("beyond ten", UNKNOWN, x.trace(0, 10, 0));
    }

    /** "each with the LINE that it is at": in BODY, WAY, LAST WAY, a second turn, behind a CALL; an ACT twice. */
    private static void traceWhereTheActsAre() {
        HireScopes x = Due.house(6);
        int n = Lines.of(x).tries().hold(0, 0).fail(9).guard(9).hold(0, 1).finish().hold(0, 2).end().loop(2).call(1, 1)
                .take(1, 0).end().act;
        int called = Lines.of(x).tries().use(0).call(2, 0).guard(3).end().act;
        int last = Lines.of(x).hold(0, 4).act;
        Due.due("run", 0, x.run(n, 0));
        leaks(x, 0, 1, 2, 4);
        trace(x, 0, n, 1);
        trace(x, 1, n, 4);
        trace(x, 2, n, 6);
        trace(x, 3, n, 9, called, 2, last, 0);
        HireScopes y = Due.house(1);
        Lines.of(y).tries().call(0, 0).guard(8).hold(0, 0).end();
        Due.due("an ACT in itself", 0, y.run(0, 0));
        trace(y, 0, 0, 1, 0, 1, 0, 1, 0, 1, 0, 1, 0, 1, 0, 1, 0, 1, 0, 1, 0, 3);
    }

    /** trace: "the k-th: the ACT (what = 0), its LINE (1). UNKNOWN: also k; OUTSIDE." */
    private static void traceBounds() {
        HireScopes x = Due.house(1);
        Lines.of(x).call(1, 0);
        Lines.of(x).hold(0, 0);
        x.run(0, 0);
        int[] unknown = {MIN, -1, 1, MAX};
        for (int i : unknown) {
            Due.due("trace(" + i + ", 0, 0)", UNKNOWN, x.trace(i, 0, 0));
            Due.due("trace(" + i + ", -1, 2)", UNKNOWN, x.trace(i, -1, 2));
            Due.due("trace(" + i + ", 0, 2)", UNKNOWN, x.trace(i, 0, 2));
        }
        int[] beyond = {MIN, -1, 2, 10, MAX};
        for (int k : beyond) {
            Due.due("trace(0, " + k + ", 0)", UNKNOWN, x.trace(0, k, 0));
            Due.due("trace(0, " + k + ", 1)", UNKNOWN, x.trace(0, k, 1));
            Due.due("trace(0, " + k + ", 2)", UNKNOWN, x.trace(0, k, 2));
        }
        int[] outside = {MIN, -1, 2, MAX};
        for (int what : outside) {
            Due.due("trace(0, 0, " + what + ")", OUTSIDE, x.trace(0, 0, what));
            Due.due("trace(0, 1, " + what + ")", OUTSIDE, x.trace(0, 1, what));
        }
        trace(x, 0, 0, 0, 1, 0);
    }

    /** The TRACE is that of when the LOAN was made: later RUNS, LINES and wipes change nothing. */
    private static void traceStays() {
        HireScopes x = Due.house(2);
        int n = Lines.of(x).use(1).act;
        int called = Lines.of(x).scope().hold(0, 0).end().act;
        Lines.anew(x, n).scope().call(called, 0).end();
        x.run(n, 3);
        x.wipe(n);
        x.wipe(called);
        Lines.anew(x, called).uses(1, 0).hold(0, 1);
        x.run(called, 4);
        Lines.anew(x, called).hold(0, 1);
        x.run(called, 5);
        leaks(x, 0, 1);
        trace(x, 0, n, 1, called, 1);
        trace(x, 1, called, 0);
        Due.due("CUSTOMER", 3, x.leak(0, 1));
        Due.due("CUSTOMER", 5, x.leak(1, 1));
    }

    /** giveBack: "LEAK i is given back: 1 .. UNKNOWN." */
    private static void giveBackBounds() {
        HireScopes x = Due.house(2);
        x.run(Lines.of(x).hold(0, 0).hold(0, 1).act, 0);
        int[] unknown = {MIN, -1, 2, 60, MAX};
        for (int i : unknown) {
            Due.due("giveBack(" + i + ")", UNKNOWN, x.giveBack(i));
        }
        leaks(x, 0, 1);
        Due.due("giveBack(1)", 1, x.giveBack(1));
        Due.due("giveBack(1) again", UNKNOWN, x.giveBack(1));
        Due.due("giveBack(0)", 1, x.giveBack(0));
        Due.due("giveBack(0) again", UNKNOWN, x.giveBack(0));
    }

    /** "of a PLAIN or LONG one the PART goes to THE CLEANING", by giveBack(), too. */
    private static void givenBackGoesToTheCleaning() {
        HireScopes x = Due.house(3);
        x.run(Lines.of(x).hold(0, 0).hold(0, 1).borrow(0, 2).act, 6);
        Due.due("DEPOSIT", 20, x.cents(6, 0));
        Due.due("giveBack(1)", 1, x.giveBack(1));
        Due.cleaning(x, "behind what is there", 2, 1);
        Due.due("STATE", 2, x.state(1));
        Due.log(x, "giveBack(1)", 0, 1, 3, 0);
        Due.log(x, "the RUN", 1, 2, 1, 0);
        Due.due("DEPOSIT", 10, x.cents(6, 0));
        Due.due("CHARGED", 0, x.cents(6, 1));
        leaks(x, 0);
    }

    /** "0, if its PART was LOST by that"; no FAILURE comes of it. */
    private static void givenBackTorn() {
        HireScopes x = Due.house(2);
        x.run(Lines.of(x).hold(0, 0).hold(0, 1).act, 6);
        x.plan(0, 2, 1);
        x.plan(1, 1, 1);
        x.plan(1, 1, 0);
        Due.due("giveBack(1)", 0, x.giveBack(1));
        Due.cleaning(x, "giveBack(1)");
        Due.due("STATE", 3, x.state(1));
        Due.log(x, "giveBack(1)", 0, 1, 3, 1);
        Due.due("PLANS", 2, x.plans(false));
        Due.due("giveBack(0)", 1, x.giveBack(0));
        Due.cleaning(x, "giveBack(0)", 0);
        Due.log(x, "giveBack(0)", 0, 0, 3, 0);
        Due.ran(x, "the RUN as it was", 0, 2, 0, 2, 1, 0, NOTHING);
        Due.due("failure(0, 0)", UNKNOWN, x.failure(0, 0));
        Due.due("CHARGED", 10, x.cents(6, 1));
        Due.due("DEPOSIT", 0, x.cents(6, 0));
    }

    /** cents: "UNKNOWN, OUTSIDE"; the most there may be: 60 PARTS of 100000. */
    private static void depositBounds() {
        HireScopes x = new HireScopes();
        for (int p = 0; p < 60; p++) {
            x.part(0, 100000);
        }
        int[] unknown = {MIN, -1, 8, MAX};
        for (int c : unknown) {
            Due.due("cents(" + c + ", 0)", UNKNOWN, x.cents(c, 0));
            Due.due("cents(" + c + ", 1)", UNKNOWN, x.cents(c, 1));
            Due.due("cents(" + c + ", 2)", UNKNOWN, x.cents(c, 2));
        }
        int[] outside = {MIN, -1, 2, MAX};
        for (int what : outside) {
            Due.due("cents(0, " + what + ")", OUTSIDE, x.cents(0, what));
            Due.due("cents(7, " + what + ")", OUTSIDE, x.cents(7, what));
        }
        int n = x.act();
        for (int from = 0; from < 60; from += 30) {
            Lines lines = Lines.anew(x, n);
            for (int p = from; p < from + 30; p++) {
                lines.hold(0, p);
            }
            x.run(n, 7);
        }
        Due.due("the largest DEPOSIT", 6000000, x.cents(7, 0));
        for (int p = 0; p < 60; p++) {
            x.plan(p, 1, 1);
            Due.due("giveBack(0)", 0, x.giveBack(0));
        }
        Due.due("no DEPOSIT", 0, x.cents(7, 0));
        Due.due("the most CHARGED", 6000000, x.cents(7, 1));
        Due.due("another's DEPOSIT", 0, x.cents(0, 0));
        Due.due("another is CHARGED", 0, x.cents(0, 1));
    }

    /** "A CUSTOMER's DEPOSIT: the cents of PARTS of his OPEN PLAIN, LONG LOANS": of SUB-LOANS none, of others' none. */
    private static void depositOfHisLoans() {
        HireScopes x = new HireScopes();
        int[] cents = {1, 20, 300, 4000};
        for (int each : cents) {
            x.part(0, each);
        }
        x.run(Lines.of(x).hold(0, 0).lend(0, 1).lend(1, 2).hold(3, 2).borrow(4, 3).act, 0);
        x.run(Lines.of(x).hold(0, 1).act, 7);
        Due.due("DEPOSIT of 0", 301, x.cents(0, 0));
        Due.due("DEPOSIT of 7", 20, x.cents(7, 0));
        Due.due("DEPOSIT of 3", 0, x.cents(3, 0));
        x.giveBack(0);
        Due.due("DEPOSIT of 0", 300, x.cents(0, 0));
        x.clean(60);
        x.run(Lines.of(x).hold(0, 0).act, 7);
        Due.due("DEPOSIT of 7", 21, x.cents(7, 0));
        Due.due("DEPOSIT of 0", 300, x.cents(0, 0));
    }

    /** "CHARGED: of those that were LOST by his": by BACK, a SCOPE's END, SPENT, giveBack(); not by another's. */
    private static void chargedByEachGivingBack() {
        HireScopes x = new HireScopes();
        int[] cents = {1, 20, 300, 4000, 50000};
        for (int p = 0; p < 5; p++) {
            x.part(0, cents[p]);
            x.plan(p, 1, 1);
        }
        x.run(Lines.of(x).hold(0, 3).act, 2);
        x.run(Lines.of(x).borrow(0, 0).back(0).act, 2);
        Due.due("by BACK", 1, x.cents(2, 1));
        x.run(Lines.of(x).borrow(0, 1).act, 2);
        Due.due("by a SCOPE's END", 21, x.cents(2, 1));
        x.run(Lines.of(x).borrow(0, 2).loop(20).loop(20).ends(2).act, 2);
        Due.due("SPENT", 321, x.cents(2, 1));
        x.run(Lines.of(x).borrow(0, 4).act, 5);
        Due.due("by another's", 321, x.cents(2, 1));
        Due.due("the other's own", 50000, x.cents(5, 1));
        x.giveBack(0);
        Due.due("by giveBack()", 4321, x.cents(2, 1));
        Due.due("the other's own", 50000, x.cents(5, 1));
        for (int i = 0; i < 5; i++) {
            Due.due("all are LOST", 1, x.log(i, 2));
        }
    }

    /** "THE LOG: each giving back of a PLAIN, LONG LOAN": of a SUB-LOAN alone none, so it is empty yet. */
    private static void logIsEmpty() {
        HireScopes x = Due.house(1);
        x.run(Lines.of(x).hold(0, 0).lend(0, 1).act, 0);
        int[] places = {MIN, -1, 0, 1, 59, 60, MAX};
        for (int i : places) {
            for (int what = 0; what <= 2; what++) {
                Due.due("log(" + i + ", " + what + ")", NOTHING, x.log(i, what));
            }
        }
    }

    /** "PART, how (0 BACK, 1 by a SCOPE's END, 2 SPENT, 3 giveBack()), whether LOST", each with both. */
    private static void logTellsHow() {
        for (int lost = 0; lost <= 1; lost++) {
            HireScopes x = Due.house(4);
            for (int p = 0; p < 4 && lost == 1; p++) {
                x.plan(p, 1, 1);
            }
            x.run(Lines.of(x).hold(0, 3).borrow(1, 0).back(1).act, 0);
            x.run(Lines.of(x).scope().borrow(0, 1).end().act, 0);
            x.run(Lines.of(x).borrow(0, 2).loop(20).loop(20).ends(2).act, 0);
            x.giveBack(0);
            for (int p = 0; p < 4; p++) {
                Due.log(x, "how", 3 - p, p, p, lost);
            }
            Due.log(x, "no more", 4, NOTHING, NOTHING, NOTHING);
        }
    }

    /** "each giving back .., the latest 60": of 1 to 181, so that its first place comes round three times. */
    private static void logOfEachCount() {
        int[] counts = {1, 2, 59, 60, 61, 62, 119, 120, 121, 180, 181};
        for (int count : counts) {
            HireScopes x = Due.house(60);
            int all = Lines.of(x).loop(20).take(0, 0).take(0, 0).take(0, 0).end().act;
            for (int i = 0; i < (count - 1) / 60; i++) {
                x.run(all, 0);
                x.clean(60);
            }
            int rest = (count - 1) % 60 + 1;
            Lines.anew(x, all).loop(rest / 3).take(0, 0).take(0, 0).take(0, 0).end().times(rest % 3, 1, 0, 0);
            x.run(all, 0);
            // each RUN gives back its PARTS from the last on: so the latest is PART 0
            for (int i = 0; i < 60; i++) {
                Due.due(count + " givings back: log(" + i + ", 0)", i >= count ? NOTHING : i < rest ? i : i - rest,
                        x.log(i, 0));
            }
            Due.due(count + " givings back: log(60, 0)", NOTHING, x.log(60, 0));
            Due.due(count + " givings back: log(59, 1)", count < 60 ? NOTHING : 1, x.log(59, 1));
        }
    }

    /** log: "NOTHING: none. OUTSIDE: what.", of a place that there is, and of one that there is not. */
    private static void logBounds() {
        HireScopes x = Due.house(2);
        x.run(Lines.of(x).borrow(0, 0).borrow(0, 1).act, 0);
        int[] places = {MIN, -1, 2, 59, 60, MAX};
        int[] outside = {MIN, -1, 3, MAX};
        for (int i : places) {
            Due.log(x, "no such place " + i, i, NOTHING, NOTHING, NOTHING);
            for (int what : outside) {
                Due.due("log(" + i + ", " + what + ")", OUTSIDE, x.log(i, what));
            }
        }
        for (int what : outside) {
            Due.due("log(0, " + what + ")", OUTSIDE, x.log(0, what));
            Due.due("log(1, " + what + ")", OUTSIDE, x.log(1, what));
        }
        Due.log(x, "the latest", 0, 0, 1, 0);
        Due.log(x, "before it", 1, 1, 1, 0);
    }

    /** "An object is used for at most 512 calls": the 512th answers as the document says. */
    private static void theLastCall() {
        HireScopes x = Due.house(60);
        int all = Lines.of(x).loop(20).take(0, 0).take(0, 0).take(0, 0).end().act;
        int calls = 60 + 1 + 5;
        while (calls < 510) {
            Due.due("run " + calls, 0, x.run(all, 0));
            Due.due("clean " + calls, 60, x.clean(60));
            calls += 2;
        }
        Due.due("the 511th call", 0, x.run(all, 0));
        Due.due("the 512th call", 59, x.log(59, 0));
    }
}
