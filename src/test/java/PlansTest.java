/** Promises 6 and 7: plan, plans; and when a PLAN is met. */
public final class PlansTest {
    public static void main(String[] args) {
        bounds();
        full();
        uses();
        misuseCountsForNone();
        givingBack();
        severalAtOnce();
        metWhileSpent();
        Due.end();
    }

    private static void bounds() {
        HireScopes x = new HireScopes();
        x.part(0, 1);
        Due.due("plan(1, 1, 0)", HireScopes.UNKNOWN, x.plan(1, 1, 0));
        Due.due("plan(-1, 0, 9)", HireScopes.UNKNOWN, x.plan(-1, 0, 9));
        Due.due("plan(0, 0, 0)", HireScopes.OUTSIDE, x.plan(0, 0, 0));
        Due.due("plan(0, 21, 0)", HireScopes.OUTSIDE, x.plan(0, 21, 0));
        Due.due("plan(0, 1, -1)", HireScopes.OUTSIDE, x.plan(0, 1, -1));
        Due.due("plan(0, 1, 2)", HireScopes.OUTSIDE, x.plan(0, 1, 2));
        Due.due("plans(false)", 0, x.plans(false));
        Due.due("plan(0, 1, 0)", 1, x.plan(0, 1, 0));
        Due.due("plan(0, 20, 1)", 2, x.plan(0, 20, 1));
        Due.due("plans(true)", 2, x.plans(true));
        Due.due("plans(true)", 0, x.plans(true));
        Due.due("plan(0, 1, 0)", 1, x.plan(0, 1, 0));
    }

    private static void full() {
        HireScopes x = new HireScopes();
        x.part(0, 1);
        for (int i = 1; i <= 30; i++) {
            Due.due("plan " + i, i, x.plan(0, 20, 1));
        }
        Due.due("the 31st", HireScopes.FULL, x.plan(0, 20, 1));
        Due.due("the 31st, OUTSIDE too", HireScopes.OUTSIDE, x.plan(0, 21, 1));
        Due.due("the 31st, UNKNOWN too", HireScopes.UNKNOWN, x.plan(1, 21, 1));
        Due.due("plans(false)", 30, x.plans(false));
        Due.due("plans(true)", 30, x.plans(true));
        Due.due("plan again", 1, x.plan(0, 20, 1));
    }

    /** The n-th USE counts from the PLAN on, over RUNS and SUB-LOANS; a PLAN that was met is gone. */
    private static void uses() {
        HireScopes x = new HireScopes();
        x.part(0, 1);
        x.part(0, 1);
        int n = Due.script(x, 0, 0, 0, 3, 0, 0, 5, 0, 1, 3, 1, 0);
        x.run(n, 0);
        x.clean(60);
        x.plan(0, 3, 0);
        x.plan(1, 3, 0);
        Due.due("2 USES", 0, x.run(n, 0));
        Due.due("plans", 2, x.plans(false));
        x.clean(60);
        Due.due("the 3rd USE", 1, x.run(n, 0));
        Due.failure(x, "the 3rd USE", 0, 5, n, 1, 0, -1, -1);
        Due.due("plans", 1, x.plans(false));
        x.clean(60);
        Due.due("behind it", 0, x.run(n, 0));
        x.clean(60);
        x.plan(0, 20, 0);
        int all = Due.script(x, 0, 0, 0, 11, 20, 0, 3, 0, 0, 16, 0, 0);
        Due.due("the 20th USE", 1, x.run(all, 0));
        Due.ran(x, "the 20th USE", 1, 41);
    }

    private static void misuseCountsForNone() {
        HireScopes x = new HireScopes();
        x.part(0, 1);
        x.plan(0, 1, 0);
        // USE of a LOAN that is lent on is TAKEN, of one that is over is OVER
        int taken = Due.script(x, 0, 0, 0, 5, 0, 1, 3, 0, 0);
        int over = Due.script(x, 0, 0, 0, 4, 0, 0, 3, 0, 0);
        int right = Due.script(x, 0, 0, 0, 3, 0, 0);
        x.run(taken, 0);
        Due.failure(x, "taken", 0, 2);
        x.clean(60);
        x.run(over, 0);
        Due.failure(x, "over", 0, 3);
        x.clean(60);
        Due.due("plans", 1, x.plans(false));
        x.run(right, 0);
        Due.failure(x, "right", 0, 5);
        Due.due("plans", 0, x.plans(false));
    }

    /** Giving back counts of PLAIN and LONG LOANS, not of SUB-LOANS. */
    private static void givingBack() {
        HireScopes x = new HireScopes();
        x.part(0, 1);
        x.plan(0, 3, 1);
        int n = Due.script(x, 0, 0, 0, 5, 0, 1, 4, 1, 0, 5, 0, 1);
        Due.due("the 1st giving back", 0, x.run(n, 0));
        x.clean(60);
        int held = Due.script(x, 2, 0, 0);
        x.run(held, 0);
        Due.due("the 2nd giving back", 1, x.giveBack(0));
        x.clean(60);
        Due.due("plans", 1, x.plans(false));
        Due.due("the 3rd giving back", 1, x.run(n, 0));
        Due.due("plans", 0, x.plans(false));
        Due.due("state", 3, x.state(0));
        Due.due("PLAN of a LOST PART", 1, x.plan(0, 1, 1));
    }

    private static void severalAtOnce() {
        HireScopes x = new HireScopes();
        x.part(0, 1);
        x.plan(0, 2, 0);
        int use = Due.script(x, 0, 0, 0, 3, 0, 0);
        x.run(use, 0);
        x.clean(60);
        x.plan(0, 1, 0);
        x.plan(0, 1, 1);
        x.plan(0, 2, 0);
        Due.due("two PLANS met", 1, x.run(use, 0));
        Due.ran(x, "two PLANS met at a USE, one at its giving back", 1, 2, 2);
        Due.failure(x, "the USE", 0, 5, use, 1, 0, -1, -1);
        Due.failure(x, "the giving back", 1, 6, use, -1, 0, -1, 0);
        Due.due("one PLAN left", 1, x.plans(false));
    }

    /** PLANS are met, and gone, by what is given back SPENT, too. */
    private static void metWhileSpent() {
        HireScopes x = new HireScopes();
        x.part(0, 7);
        x.part(0, 9);
        x.plan(0, 1, 1);
        x.plan(1, 2, 1);
        int n = Due.script(x, 0, 0, 0, 0, 1, 1, 11, 20, 0, 11, 20, 0, 16, 0, 0, 16, 0, 0);
        Due.due("spent", 2, x.run(n, 3));
        Due.due("plans", 1, x.plans(false));
        Due.due("state(0)", 3, x.state(0));
        Due.due("state(1)", 2, x.state(1));
        Due.due("charged", 7, x.cents(3, 1));
    }
}
