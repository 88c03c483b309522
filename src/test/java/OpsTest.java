/** Promises 12 to 14, the OPS: what each does, and each KIND of FAILURE with its ACT, LINE, PART. */
public final class OpsTest {
    public static void main(String[] args) {
        refusals();
        borrow();
        take();
        hold();
        over();
        lend();
        subLoansGoFirst();
        passes();
        passOverCalls();
        calls();
        deep();
        failures();
        loops();
        latestRunStays();
        Due.end();
    }

    private static HireScopes house(int parts) {
        HireScopes x = new HireScopes();
        for (int p = 0; p < parts; p++) {
            x.part(p % 3, 10 * (p + 1));
        }
        return x;
    }

    private static void refusals() {
        HireScopes x = house(1);
        int n = Due.script(x, 9, 0, 0);
        int bad = Due.script(x, 10, 0, 0);
        Due.due("run(2, 0)", HireScopes.UNKNOWN, x.run(2, 0));
        Due.due("run(-1, 0)", HireScopes.UNKNOWN, x.run(-1, 0));
        Due.due("run(n, 8)", HireScopes.UNKNOWN, x.run(n, 8));
        Due.due("run(n, -1)", HireScopes.UNKNOWN, x.run(n, -1));
        Due.due("run(bad, 8)", HireScopes.UNKNOWN, x.run(bad, 8));
        Due.due("run(bad, 0)", HireScopes.STATE, x.run(bad, 0));
        Due.ran(x, "refused", 0, 0, 0, 0, 0, 0, -1);
        Due.due("run(n, 7)", 0, x.run(n, 7));
        Due.ran(x, "RETURN", 0, 1, 0, 0, 1, 0, -1);
        Due.due("ran(-1)", HireScopes.OUTSIDE, x.ran(-1));
        Due.due("ran(7)", HireScopes.OUTSIDE, x.ran(7));
        Due.due("failure(0, 0)", HireScopes.UNKNOWN, x.failure(0, 0));
        x.wipe(n);
        Due.add(x, n, 8, 0, 0);
        x.run(n, 0);
        Due.due("failure(0, -1)", HireScopes.OUTSIDE, x.failure(0, -1));
        Due.due("failure(0, 6)", HireScopes.OUTSIDE, x.failure(0, 6));
        Due.due("failure(1, 6)", HireScopes.UNKNOWN, x.failure(1, 6));
        Due.due("failure(-1, 0)", HireScopes.UNKNOWN, x.failure(-1, 0));
    }

    private static void borrow() {
        HireScopes x = house(2);
        int n = Due.script(x, 0, 7, 1, 3, 7, 0, 0, 7, 0, 0, 0, 1);
        Due.due("run", 1, x.run(n, 0));
        Due.ran(x, "a PART that is LENT", 1, 4, 1, 2, 1, 0, 0);
        Due.failure(x, "a PART that is LENT", 0, 2, n, 3, 1, -1, -1);
        Due.due("state(0)", 2, x.state(0));
        Due.due("in THE CLEANING", 1, x.run(n, 0));
        Due.failure(x, "in THE CLEANING", 0, 2, n, 0, 1, -1, -1);
        int none = Due.script(x, 0, 0, 2);
        Due.due("no such PART", 1, x.run(none, 0));
        Due.failure(x, "no such PART", 0, 2, none, 0, 2, -1, -1);
        x.wipe(none);
        Due.add(x, none, 2, 0, 59);
        Due.due("no such PART to HOLD", 1, x.run(none, 0));
        Due.failure(x, "no such PART to HOLD", 0, 2, none, 0, 59, -1, -1);
        Due.due("leaks()", 0, x.leaks());
    }

    /** TAKE has the first PART of the SORT on its RACK. */
    private static void take() {
        HireScopes x = house(6);
        int n = Due.script(x, 1, 0, 1, 1, 1, 1, 4, 0, 0, 3, 1, 0, 1, 2, 1);
        Due.due("run", 1, x.run(n, 0));
        Due.ran(x, "take", 1, 5, 1, 2, 1, 0, 0);
        Due.failure(x, "no PART on its RACK", 0, 7, n, 4, -1, -1, -1);
        Due.due("cleaning(0)", 1, x.cleaning(0));
        Due.due("cleaning(1)", 4, x.cleaning(1));
        x.clean(1);
        x.wipe(n);
        Due.add(x, n, 1, 0, 39);
        Due.due("a SORT that no PART has", 1, x.run(n, 0));
        Due.failure(x, "a SORT that no PART has", 0, 7, n, 0, -1, -1, -1);
        HireScopes full = house(60);
        int all = Due.script(full, 1, 0, 2, 1, 0, 0, 1, 0, 39);
        Due.due("run", 1, full.run(all, 0));
        Due.failure(full, "a SORT that none of 60 PARTS has", 0, 7, all, 2, -1, -1, -1);
        Due.due("PART 0 is a first one, too", 0, full.cleaning(0));
        Due.due("PART 2 is the first of its SORT", 2, full.cleaning(1));
    }

    private static void hold() {
        HireScopes x = house(2);
        int n = Due.script(x, 2, 0, 0, 3, 0, 0, 2, 1, 0);
        Due.due("run", 1, x.run(n, 2));
        Due.failure(x, "HOLD of a LENT one", 0, 2, n, 2, 0, -1, -1);
        Due.due("leaks()", 1, x.leaks());
        Due.due("state(0)", 1, x.state(0));
        Due.due("log(0, 0)", HireScopes.NOTHING, x.log(0, 0));
        int back = Due.script(x, 2, 0, 1, 4, 0, 0);
        Due.due("HOLD, BACK", 0, x.run(back, 2));
        Due.due("leaks()", 1, x.leaks());
        Due.log(x, "HOLD, BACK", 0, 1, 0, 0);
    }

    /** OVER of USE, BACK, LEND, PASS: without a LOAN, and with one that is not OPEN. */
    private static void over() {
        for (int op = 3; op <= 6; op++) {
            HireScopes x = house(1);
            int n = Due.script(x, op, 3, 0);
            Due.due("OP " + op, 1, x.run(n, 0));
            Due.failure(x, "OP " + op + " of NOTHING", 0, 3, n, 0, -1, -1, -1);
            x.wipe(n);
            Due.add(x, n, 0, 3, 0, 4, 3, 0, op, 3, 9);
            if (op == 5) {
                x.wipe(n);
                Due.add(x, n, 0, 3, 0, 4, 3, 0, op, 3, 7);
            }
            Due.due("OP " + op, 1, x.run(n, 0));
            Due.failure(x, "OP " + op + " of one that is over", 0, 3, n, 2, 0, -1, -1);
        }
    }

    /** A LOAN with an OPEN SUB-LOAN is not used, nor lent again; a SUB-LOAN is; behind its end the LOAN is free. */
    private static void lend() {
        HireScopes x = house(1);
        int n = Due.script(x, 0, 0, 0, 5, 0, 1, 5, 1, 2, 3, 2, 0, 4, 2, 0, 3, 1, 0, 4, 1, 0, 3, 0, 0, 5, 0, 0, 3, 0, 0);
        Due.due("run", 0, x.run(n, 0));
        Due.ran(x, "lend", 0, 10, 0, 4, 1, 0, -1);
        x.clean(60);
        x.wipe(n);
        Due.add(x, n, 0, 0, 0, 5, 0, 1, 5, 0, 2);
        Due.due("run", 1, x.run(n, 0));
        Due.failure(x, "LEND twice", 0, 2, n, 2, 0, -1, -1);
        Due.ran(x, "LEND twice", 1, 3, 1, 2);
        x.clean(60);
        x.wipe(n);
        Due.add(x, n, 0, 0, 0, 5, 0, 1, 5, 1, 1, 3, 1, 0, 4, 0, 0, 3, 1, 0);
        Due.due("run", 1, x.run(n, 0));
        Due.failure(x, "the SUB-LOANS go with their LOAN", 0, 3, n, 5, 0, -1, -1);
        Due.due("one giving back in THE LOG", HireScopes.NOTHING, x.log(3, 0));
        Due.log(x, "by BACK", 0, 0, 0, 0);
    }

    /** A SUB-LOAN of a LONG LOAN ends with its SCOPE; the LONG LOAN stays. */
    private static void subLoansGoFirst() {
        HireScopes x = house(1);
        int n = Due.script(x, 2, 0, 0, 12, 0, 0, 5, 0, 1, 16, 0, 0, 3, 0, 0, 3, 1, 0);
        Due.due("run", 1, x.run(n, 0));
        Due.failure(x, "the SUB-LOAN is over", 0, 3, n, 5, 0, -1, -1);
        Due.due("leaks()", 1, x.leaks());
    }

    private static void passes() {
        HireScopes x = house(3);
        // to an outer SCOPE, behind those there
        int n = Due.script(x, 0, 0, 0, 12, 0, 0, 0, 1, 1, 0, 2, 2, 6, 1, 1, 16, 0, 0, 3, 1, 0, 3, 2, 0);
        Due.due("run", 1, x.run(n, 0));
        Due.failure(x, "the other is over", 0, 3, n, 7, 2, -1, -1);
        int[] line = {2, 1, 0};
        for (int i = 0; i < 3; i++) {
            Due.due("cleaning(" + i + ")", line[i], x.cleaning(i));
        }
        x.clean(60);
        // to its own, behind those there; and to an inner one
        x.wipe(n);
        Due.add(x, n, 0, 0, 0, 0, 1, 1, 0, 2, 2, 6, 0, 0, 12, 0, 0, 6, 2, 0, 16, 0, 0);
        Due.due("run", 0, x.run(n, 0));
        line = new int[] {2, 0, 1};
        for (int i = 0; i < 3; i++) {
            Due.due("cleaning(" + i + ")", line[i], x.cleaning(i));
        }
        x.clean(60);
        // no such SCOPE, and a LONG LOAN
        x.wipe(n);
        Due.add(x, n, 0, 0, 0, 12, 0, 0, 6, 0, 2, 16, 0, 0);
        Due.due("run", 1, x.run(n, 0));
        Due.failure(x, "no such SCOPE", 0, 4, n, 2, 0, -1, -1);
        x.clean(60);
        x.wipe(n);
        Due.add(x, n, 2, 0, 0, 6, 0, 0);
        Due.due("run", 1, x.run(n, 0));
        Due.failure(x, "a LONG LOAN", 0, 4, n, 1, 0, -1, -1);
        // one with an OPEN SUB-LOAN may be passed, too
        x.wipe(n);
        Due.add(x, n, 12, 0, 0, 0, 0, 2, 5, 0, 1, 6, 0, 1, 16, 0, 0, 3, 0, 0, 3, 1, 0);
        Due.due("run", 1, x.run(n, 0));
        Due.failure(x, "one with a SUB-LOAN", 0, 3, n, 6, 2, -1, -1);
        // a LOAN before its SUB-LOAN, in another SCOPE: the SUB-LOAN goes with it
        x.wipe(n);
        Due.add(x, n, 12, 0, 0, 0, 0, 1, 5, 0, 1, 6, 1, 1, 16, 0, 0, 3, 1, 0);
        Due.due("run", 1, x.run(n, 0));
        Due.failure(x, "the SUB-LOAN went", 0, 3, n, 5, 1, -1, -1);
    }

    /** SCOPES outward go over CALLS: an ACT can PASS to the one that called it. */
    private static void passOverCalls() {
        HireScopes x = house(2);
        int inner = Due.script(x, 0, 1, 1, 6, 1, 1, 3, 0, 0, 6, 0, 0);
        int outer = Due.script(x, 0, 0, 0, 7, inner, 0, 3, 0, 0);
        Due.due("run", 1, x.run(outer, 0));
        Due.failure(x, "it was given back by the inner ACT", 0, 3, outer, 2, 0, -1, -1);
        Due.due("cleaning(0)", 0, x.cleaning(0));
        Due.due("cleaning(1)", 1, x.cleaning(1));
        Due.ran(x, "over CALLS", 1, 7, 1, 2, 2);
    }

    private static void calls() {
        HireScopes x = house(4);
        int outer = Due.script(x, 0, 5, 0, 7, 1, 5, 3, 5, 0, 7, 1, 4);
        int inner = Due.script(x, 3, 0, 0, 9, 0, 0, 8, 0, 0);
        Due.due("run", 1, x.run(outer, 0));
        Due.ran(x, "SLOT 0 has what the SLOT had", 1, 7, 1, 1, 3, 0, 0);
        Due.failure(x, "SLOT 0 has NOTHING", 0, 3, inner, 0, -1, -1, -1);
        x.clean(60);
        // SLOTS of its own: those of the inner ACT are not those of the outer
        x.wipe(inner);
        Due.add(x, inner, 0, 0, 1, 4, 0, 0, 3, 5, 0);
        Due.due("run", 1, x.run(outer, 0));
        Due.failure(x, "SLOTS of its own", 0, 3, inner, 2, -1, -1, -1);
        x.clean(60);
        // and each time NOTHING at first, in the next CALL, and in the next RUN
        x.wipe(outer);
        Due.add(x, outer, 11, 2, 0, 7, inner, 0, 16, 0, 0);
        x.wipe(inner);
        Due.add(x, inner, 13, 0, 0, 3, 7, 0, 14, 3, 0, 1, 7, 0, 16, 0, 0);
        Due.due("run", 0, x.run(outer, 0));
        for (int i = 0; i < 2; i++) {
            Due.failure(x, "NOTHING at first", i, 3, inner, 1, -1, -1, -1);
        }
        x.clean(60);
        Due.due("run", 0, x.run(inner, 0));
        Due.failure(x, "NOTHING at first in a RUN", 0, 3, inner, 1, -1, -1, -1);
        x.clean(60);
        x.wipe(outer);
        Due.add(x, outer, 0, 5, 0, 7, 1, 5, 3, 5, 0, 7, 1, 4);
        int[] calls = {1, 2, 11};
        x.wipe(inner);
        x.line(inner, 16, 0, 0);
        for (int n : calls) {
            x.wipe(outer);
            Due.add(x, outer, 0, 0, 0, 7, n, 0);
            Due.due("run", 1, x.run(outer, 0));
            Due.failure(x, "no SOUND ACT " + n, 0, 4, outer, 1, -1, -1, -1);
            x.clean(60);
        }
    }

    private static void deep() {
        HireScopes x = house(1);
        // nine CALLS deep is not too deep
        for (int n = 0; n < 10; n++) {
            Due.script(x, 7, n + 1, 0);
        }
        x.wipe(9);
        x.line(9, 3, 0, 0);
        Due.due("run", 1, x.run(0, 0));
        Due.failure(x, "the 10th ACT", 0, 3, 9, 0, -1, -1, -1);
        Due.ran(x, "the 10th ACT", 1, 10, 1, 0, 10);
        // DEEP comes before CLOSED
        x.wipe(9);
        x.line(9, 7, 11, 0);
        Due.due("run", 1, x.run(0, 0));
        Due.failure(x, "the 10th CALL", 0, 8, 9, 0, -1, -1, -1);
        // ten ACTS with eight SCOPES each are 90 SCOPES at once
        for (int n = 0; n < 10; n++) {
            x.wipe(n);
            for (int i = 0; i < 8; i++) {
                x.line(n, 12, 0, 0);
            }
            x.line(n, 7, n + 1, 0);
            for (int i = 0; i < 8; i++) {
                x.line(n, 16, 0, 0);
            }
        }
        x.wipe(9);
        Due.add(x, 9, 12, 0, 0, 12, 0, 0, 12, 0, 0, 12, 0, 0, 12, 0, 0, 12, 0, 0, 12, 0, 0, 12, 0, 0, 0, 0, 0, 6, 0, 9, 7, 0, 0);
        for (int i = 0; i < 8; i++) {
            x.line(9, 16, 0, 0);
        }
        Due.due("run", 1, x.run(0, 0));
        Due.ran(x, "90 SCOPES", 1, 92, 1, 1, 90, 0, 0);
        Due.failure(x, "90 SCOPES", 0, 8, 9, 10, -1, -1, -1);
        Due.due("all ended", 2, x.state(0));
    }

    /** FAIL may be of any KIND. */
    private static void failures() {
        HireScopes x = house(1);
        int n = Due.script(x);
        for (int k = 0; k < 12; k++) {
            x.wipe(n);
            Due.add(x, n, 0, 0, 0, 8, k, 0);
            x.clean(60);
            Due.due("run", 1, x.run(n, 0));
            Due.failure(x, "FAIL", 0, k, n, 1, -1, -1, -1);
        }
    }

    /** LOOP: as many turns as it says; each behind the first is a STEP; BREAK leaves the latest LOOP. */
    private static void loops() {
        HireScopes x = house(1);
        int n = Due.script(x, 11, 0, 0, 8, 0, 0, 16, 0, 0);
        Due.due("LOOP 0", 0, x.run(n, 0));
        Due.ran(x, "LOOP 0", 0, 1, 0, 0, 1);
        x.wipe(n);
        Due.add(x, n, 11, 0, 0, 12, 0, 0, 8, 0, 0, 16, 0, 0, 16, 0, 0, 12, 0, 0, 3, 0, 0, 16, 0, 0);
        Due.due("behind LOOP 0", 1, x.run(n, 0));
        Due.ran(x, "behind LOOP 0", 1, 3, 1, 0, 2);
        Due.failure(x, "behind LOOP 0", 0, 3, n, 6, -1, -1, -1);
        x.wipe(n);
        Due.add(x, n, 11, 1, 0, 12, 0, 0, 16, 0, 0, 16, 0, 0);
        Due.due("LOOP 1", 0, x.run(n, 0));
        Due.ran(x, "LOOP 1", 0, 2, 0, 0, 2);
        x.wipe(n);
        Due.add(x, n, 11, 20, 0, 12, 0, 0, 16, 0, 0, 16, 0, 0);
        Due.due("LOOP 20", 0, x.run(n, 0));
        Due.ran(x, "LOOP 20", 0, 40, 0, 0, 21);
        x.wipe(n);
        Due.add(x, n, 11, 3, 0, 11, 5, 0, 12, 0, 0, 10, 0, 0, 16, 0, 0, 16, 0, 0, 16, 0, 0, 12, 0, 0, 16, 0, 0);
        Due.due("BREAK", 0, x.run(n, 0));
        Due.ran(x, "BREAK", 0, 13, 0, 0, 5);
        x.wipe(n);
        Due.add(x, n, 11, 3, 0, 12, 0, 0, 9, 0, 0, 16, 0, 0, 16, 0, 0, 8, 0, 0);
        Due.due("RETURN", 0, x.run(n, 0));
        Due.ran(x, "RETURN", 0, 3, 0, 0, 2);
    }

    /** What is told of the latest RUN stays till the next, and a refused one is none. */
    private static void latestRunStays() {
        HireScopes x = house(1);
        int n = Due.script(x, 0, 0, 0, 8, 11, 0);
        x.run(n, 0);
        x.wipe(n);
        x.line(n, 16, 0, 0);
        Due.due("refused", HireScopes.STATE, x.run(n, 0));
        Due.ran(x, "stays", 1, 2, 1, 1, 1, 0, 0);
        Due.failure(x, "stays", 0, 11, n, 1, -1, -1, -1);
        x.wipe(n);
        x.run(n, 0);
        Due.ran(x, "the next", 0, 0, 0, 0, 1, 0, -1);
        Due.due("failure(0, 0)", HireScopes.UNKNOWN, x.failure(0, 0));
    }
}
