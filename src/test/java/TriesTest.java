/** Promises 12 to 14, the TRIES: GUARDS, CAUSES, LAST WAYS, what is SUPPRESSED and what is LET GO. */
public final class TriesTest {
    public static void main(String[] args) {
        kinds();
        firstGuard();
        bodyWithoutFailure();
        scopesEndBeforeGuards();
        causes();
        wayOfItsOwnTry();
        lastWayOnEachWay();
        lastWayInPlace();
        letGo();
        pendingGoesOn();
        causeOfWhatLeavesOnly();
        Due.end();
    }

    private static HireScopes house(int parts) {
        HireScopes x = new HireScopes();
        for (int p = 0; p < parts; p++) {
            x.part(0, 10);
        }
        return x;
    }

    /** Each GUARD has its KIND and what is UNDER it. */
    private static void kinds() {
        String[] has = {"0 1 2 3 4 5 6 7 8 9 10 11", "1 2 3 4", "2", "3", "4", "5 6 11", "6", "7", "8", "9 10", "10",
            "11"};
        HireScopes x = new HireScopes();
        int n = x.act();
        for (int guard = 0; guard < 12; guard++) {
            for (int kind = 0; kind < 12; kind++) {
                x.wipe(n);
                Due.add(x, n, 13, 0, 0, 8, kind, 0, 14, guard, 0, 16, 0, 0);
                boolean guarded = (" " + has[guard] + " ").contains(" " + kind + " ");
                Due.due("GUARD " + guard + " of " + kind, guarded ? 0 : 1, x.run(n, 0));
                Due.ran(x, "GUARD " + guard, guarded ? 0 : 1, guarded ? 3 : 2, 1, 0, 1, 0, guarded ? -1 : 0);
                if (x.ran(1) == 0) {
                    return;
                }
            }
        }
    }

    private static void firstGuard() {
        HireScopes x = new HireScopes();
        int n = Due.script(x, 13, 0, 0, 8, 4, 0, 14, 2, 0, 8, 7, 0, 14, 1, 0, 8, 8, 0, 14, 4, 0, 8, 9, 0, 16, 0, 0);
        Due.due("run", 1, x.run(n, 0));
        Due.ran(x, "the first GUARD that has it", 1, 4, 2, 0, 1, 0, 1);
        Due.failure(x, "the first GUARD that has it", 1, 8, n, 5, -1, 0, -1);
    }

    /** GUARDS without a FAILURE are no STEPS and no WAYS; FINISH is. */
    private static void bodyWithoutFailure() {
        HireScopes x = house(1);
        int n = Due.script(x, 13, 0, 0, 12, 0, 0, 16, 0, 0, 14, 0, 0, 8, 0, 0, 16, 0, 0, 12, 0, 0, 16, 0, 0);
        Due.due("run", 0, x.run(n, 0));
        Due.ran(x, "BODY by END", 0, 3, 0, 0, 3, 0, -1);
        x.wipe(n);
        Due.add(x, n, 13, 0, 0, 12, 0, 0, 16, 0, 0, 14, 0, 0, 8, 0, 0, 15, 0, 0, 0, 0, 0, 16, 0, 0, 3, 0, 0);
        Due.due("run", 0, x.run(n, 0));
        Due.ran(x, "BODY by END, FINISH", 0, 5, 0, 1, 2, 0, -1);
        x.wipe(n);
        Due.add(x, n, 13, 0, 0, 16, 0, 0, 13, 0, 0, 15, 0, 0, 16, 0, 0);
        Due.due("run", 0, x.run(n, 0));
        Due.ran(x, "empty TRIES", 0, 3, 0, 0, 1, 0, -1);
    }

    private static void scopesEndBeforeGuards() {
        HireScopes x = house(2);
        x.plan(0, 1, 1);
        int n = Due.script(x, 13, 0, 0, 12, 0, 0, 0, 0, 0, 0, 1, 1, 8, 9, 0, 16, 0, 0, 14, 9, 0, 3, 1, 0, 16, 0, 0);
        Due.due("run", 1, x.run(n, 0));
        Due.failure(x, "on its way", 0, 9, n, 4, -1, -1, -1);
        Due.failure(x, "the SCOPE's", 1, 6, n, 1, 0, -1, 0);
        Due.failure(x, "in the WAY, behind the SCOPE", 2, 3, n, 7, 1, 0, -1);
        // a TRY has no SCOPE: what BODY borrowed is OPEN in its WAY
        x.clean(60);
        x.wipe(n);
        Due.add(x, n, 13, 0, 0, 0, 0, 1, 8, 9, 0, 14, 9, 0, 3, 0, 0, 16, 0, 0, 3, 0, 0);
        Due.due("a TRY has no SCOPE", 0, x.run(n, 0));
        Due.ran(x, "a TRY has no SCOPE", 0, 6, 1, 1, 1, 0, -1);
    }

    /** A FAILURE that leaves WAYS within WAYS has its first CAUSE; each WAY's FAILURE has its own. */
    private static void causes() {
        HireScopes x = new HireScopes();
        int n = Due.script(x, 13, 0, 0, 8, 9, 0, 14, 9, 0, 13, 0, 0, 8, 10, 0, 14, 0, 0, 8, 11, 0, 16, 0, 0, 16, 0, 0);
        Due.due("run", 1, x.run(n, 0));
        Due.ran(x, "WAYS within WAYS", 1, 7, 3, 0, 1, 0, 2);
        Due.failure(x, "WAYS within WAYS", 0, 9, n, 1, -1, -1, -1);
        Due.failure(x, "WAYS within WAYS", 1, 10, n, 4, -1, -1, -1);
        Due.failure(x, "WAYS within WAYS", 2, 11, n, 6, -1, 1, -1);
        // guarded within the WAY: it does not leave it
        x.wipe(n);
        Due.add(x, n, 13, 0, 0, 8, 9, 0, 14, 9, 0, 13, 0, 0, 8, 10, 0, 14, 0, 0, 16, 0, 0, 8, 7, 0, 16, 0, 0);
        Due.due("run", 1, x.run(n, 0));
        Due.failure(x, "guarded within the WAY", 1, 10, n, 4, -1, -1, -1);
        Due.failure(x, "behind that", 2, 7, n, 7, -1, 0, -1);
        // from an ACT called in the WAY
        int inner = Due.script(x, 8, 3, 0);
        x.wipe(n);
        Due.add(x, n, 13, 0, 0, 8, 9, 0, 14, 9, 0, 7, inner, 0, 16, 0, 0);
        Due.due("run", 1, x.run(n, 0));
        Due.failure(x, "of an ACT called in the WAY", 1, 3, inner, 0, -1, 0, -1);
    }

    /** No GUARD of a TRY has what leaves its WAY; one of an outer TRY may. */
    private static void wayOfItsOwnTry() {
        HireScopes x = new HireScopes();
        int n = Due.script(x, 13, 0, 0, 13, 0, 0, 8, 2, 0, 14, 1, 0, 8, 3, 0, 14, 0, 0, 8, 4, 0, 16, 0, 0, 14, 3, 0, 8, 7,
                0, 16, 0, 0);
        Due.due("run", 1, x.run(n, 0));
        Due.ran(x, "two TRIES", 1, 7, 3, 0, 1, 0, 2);
        Due.failure(x, "two TRIES", 1, 3, n, 4, -1, 0, -1);
        Due.failure(x, "two TRIES", 2, 7, n, 9, -1, 1, -1);
    }

    /** The LAST WAY is done once, on each way out of BODY and WAYS; by its END what was on its way goes on. */
    private static void lastWayOnEachWay() {
        int[] ops = {3, 9, 10, 8};
        for (int op : ops) {
            HireScopes x = house(2);
            int n = Due.script(x, 0, 0, 0, 11, 2, 0, 13, 0, 0, op, 0, 0, 15, 0, 0, 5, 0, 1, 4, 1, 0, 16, 0, 0, 16, 0, 0,
                    0, 0, 1);
            Due.due("BODY by OP " + op, op == 8 ? 1 : 0, x.run(n, 0));
            int[] steps = {14, 7, 8, 7};
            int which = op == 3 ? 0 : op == 9 ? 1 : op == 10 ? 2 : 3;
            Due.ran(x, "BODY by OP " + op, op == 8 ? 1 : 0, steps[which], op == 8 ? 1 : 0,
                    op == 3 ? 4 : op == 10 ? 3 : 2, 1, 0, op == 8 ? 0 : -1);
            x.clean(60);
            x.wipe(n);
            Due.add(x, n, 0, 0, 0, 11, 1, 0, 13, 0, 0, 8, 3, 0, 14, 1, 0, op, 0, 0, 15, 0, 0, 5, 0, 1, 16, 0, 0, 16, 0, 0,
                    0, 0, 1);
            Due.due("WAY by OP " + op, op == 8 ? 1 : 0, x.run(n, 0));
            Due.ran(x, "WAY by OP " + op, op == 8 ? 1 : 0, op == 3 || op == 10 ? 9 : 8, op == 8 ? 2 : 1,
                    op == 3 || op == 10 ? 3 : 2, 1, 0, op == 8 ? 1 : -1);
            if (op == 8) {
                Due.failure(x, "WAY by a FAILURE", 1, 0, n, 5, -1, 0, -1);
            }
        }
    }

    /** A LAST WAY's RETURN, BREAK and FAILURE go in place of what was on its way. */
    private static void lastWayInPlace() {
        HireScopes x = house(1);
        int n = x.act();
        Due.add(x, n, 13, 0, 0, 8, 9, 0, 15, 0, 0, 8, 7, 0, 16, 0, 0);
        Due.due("a FAILURE in place of a FAILURE", 1, x.run(n, 0));
        Due.ran(x, "a FAILURE in place of a FAILURE", 1, 4, 2, 0, 1, 0, 1);
        Due.failure(x, "a FAILURE in place of a FAILURE", 0, 9, n, 1, -1, -1, 1);
        Due.failure(x, "a FAILURE in place of a FAILURE", 1, 7, n, 3, -1, -1, -1);
        x.wipe(n);
        Due.add(x, n, 13, 0, 0, 9, 0, 0, 15, 0, 0, 8, 7, 0, 16, 0, 0);
        Due.due("a FAILURE in place of RETURN", 1, x.run(n, 0));
        Due.ran(x, "a FAILURE in place of RETURN", 1, 4, 1, 0, 1, 0, 0);
        x.wipe(n);
        Due.add(x, n, 11, 5, 0, 13, 0, 0, 9, 0, 0, 15, 0, 0, 10, 0, 0, 16, 0, 0, 16, 0, 0, 8, 11, 0);
        Due.due("BREAK in place of RETURN", 1, x.run(n, 0));
        Due.ran(x, "BREAK in place of RETURN", 1, 6, 1, 0, 1, 0, 0);
        x.wipe(n);
        Due.add(x, n, 11, 5, 0, 13, 0, 0, 10, 0, 0, 15, 0, 0, 9, 0, 0, 16, 0, 0, 16, 0, 0, 8, 11, 0);
        Due.due("RETURN in place of BREAK", 0, x.run(n, 0));
        Due.ran(x, "RETURN in place of BREAK", 0, 5, 0, 0, 1, 0, -1);
        // what leaves a WAY has its CAUSE, and is SUPPRESSED then
        x.wipe(n);
        Due.add(x, n, 13, 0, 0, 8, 9, 0, 14, 0, 0, 8, 10, 0, 15, 0, 0, 8, 7, 0, 16, 0, 0);
        Due.due("behind a WAY", 1, x.run(n, 0));
        Due.failure(x, "behind a WAY", 1, 10, n, 3, -1, 0, 2);
        Due.failure(x, "behind a WAY", 2, 7, n, 5, -1, -1, -1);
        // a SCOPE's end in the LAST WAY, in place of its RETURN
        x.plan(0, 1, 1);
        x.wipe(n);
        Due.add(x, n, 13, 0, 0, 8, 9, 0, 15, 0, 0, 12, 0, 0, 0, 0, 0, 9, 0, 0, 16, 0, 0, 16, 0, 0);
        Due.due("TORN in a LAST WAY", 1, x.run(n, 0));
        Due.ran(x, "TORN in a LAST WAY", 1, 6, 2, 1, 2, 0, 1);
        Due.failure(x, "TORN in a LAST WAY", 0, 9, n, 1, -1, -1, 1);
        Due.failure(x, "TORN in a LAST WAY", 1, 6, n, 3, 0, -1, -1);
    }

    private static void letGo() {
        HireScopes x = new HireScopes();
        int n = Due.script(x, 13, 0, 0, 8, 9, 0, 15, 0, 0, 9, 0, 0, 16, 0, 0, 8, 0, 0);
        Due.due("by RETURN", 0, x.run(n, 0));
        Due.ran(x, "by RETURN", 0, 4, 1, 0, 1, 1, -1);
        Due.failure(x, "by RETURN", 0, 9, n, 1, -1, -1, -1);
        x.wipe(n);
        Due.add(x, n, 11, 3, 0, 13, 0, 0, 8, 9, 0, 15, 0, 0, 10, 0, 0, 16, 0, 0, 16, 0, 0);
        Due.due("by BREAK", 0, x.run(n, 0));
        Due.ran(x, "by BREAK", 0, 5, 1, 0, 1, 1, -1);
        // a BREAK of a LOOP within the LAST WAY does not leave it
        x.wipe(n);
        Due.add(x, n, 13, 0, 0, 8, 9, 0, 15, 0, 0, 11, 3, 0, 10, 0, 0, 16, 0, 0, 16, 0, 0);
        Due.due("a LOOP within", 1, x.run(n, 0));
        Due.ran(x, "a LOOP within", 1, 5, 1, 0, 1, 0, 0);
        // LAST WAYS within LAST WAYS: two are LET GO at once
        x.wipe(n);
        Due.add(x, n, 13, 0, 0, 8, 9, 0, 15, 0, 0, 13, 0, 0, 8, 10, 0, 15, 0, 0, 9, 0, 0, 16, 0, 0, 16, 0, 0);
        Due.due("two at once", 0, x.run(n, 0));
        Due.ran(x, "two at once", 0, 7, 2, 0, 1, 2, -1);
        x.wipe(n);
        Due.add(x, n, 13, 0, 0, 8, 9, 0, 15, 0, 0, 13, 0, 0, 8, 10, 0, 15, 0, 0, 8, 11, 0, 16, 0, 0, 16, 0, 0);
        Due.due("two SUPPRESSED", 1, x.run(n, 0));
        Due.ran(x, "two SUPPRESSED", 1, 7, 3, 0, 1, 0, 2);
        Due.failure(x, "two SUPPRESSED", 0, 9, n, 1, -1, -1, 2);
        Due.failure(x, "two SUPPRESSED", 1, 10, n, 4, -1, -1, 2);
        // one that was guarded is not LET GO by a RETURN of its WAY, nor in an ACT that was called
        x.wipe(n);
        Due.add(x, n, 13, 0, 0, 8, 9, 0, 14, 0, 0, 9, 0, 0, 16, 0, 0);
        Due.due("guarded", 0, x.run(n, 0));
        Due.ran(x, "guarded", 0, 4, 1, 0, 1, 0, -1);
        int inner = Due.script(x, 9, 0, 0);
        x.wipe(n);
        Due.add(x, n, 13, 0, 0, 8, 9, 0, 15, 0, 0, 7, inner, 0, 16, 0, 0);
        Due.due("RETURN of an ACT called in it", 1, x.run(n, 0));
        Due.ran(x, "RETURN of an ACT called in it", 1, 5, 1, 0, 2, 0, 0);
    }

    /** What was on its way goes on behind a LAST WAY in which FAILURES come and are guarded. */
    private static void pendingGoesOn() {
        HireScopes x = new HireScopes();
        int n = Due.script(x, 13, 0, 0, 13, 0, 0, 8, 9, 0, 15, 0, 0, 13, 0, 0, 8, 7, 0, 14, 0, 0, 16, 0, 0, 16, 0, 0, 14, 9,
                0, 8, 8, 0, 16, 0, 0);
        Due.due("run", 1, x.run(n, 0));
        Due.ran(x, "goes on", 1, 9, 3, 0, 1, 0, 2);
        Due.failure(x, "goes on", 0, 9, n, 2, -1, -1, -1);
        Due.failure(x, "goes on", 1, 7, n, 5, -1, -1, -1);
        Due.failure(x, "goes on", 2, 8, n, 10, -1, 0, -1);
    }

    /** A FAILURE of a SCOPE around the TRY does not leave the WAY: it has no CAUSE. One of a SCOPE within has. */
    private static void causeOfWhatLeavesOnly() {
        HireScopes x = house(2);
        x.plan(0, 1, 1);
        int n = Due.script(x, 0, 0, 0, 13, 0, 0, 8, 9, 0, 14, 0, 0, 9, 0, 0, 16, 0, 0);
        Due.due("around", 1, x.run(n, 0));
        Due.failure(x, "around", 1, 6, n, -1, 0, -1, -1);
        x.plan(1, 1, 1);
        x.wipe(n);
        Due.add(x, n, 13, 0, 0, 8, 9, 0, 14, 0, 0, 12, 0, 0, 0, 0, 1, 9, 0, 0, 16, 0, 0, 16, 0, 0);
        Due.due("within", 1, x.run(n, 0));
        Due.failure(x, "within", 1, 6, n, 3, 1, 0, -1);
    }
}
