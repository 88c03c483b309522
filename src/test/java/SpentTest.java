/** Promises 12 and 13, SPENT: the 161st STEP and the 17th FAILURE that would be. */
public final class SpentTest {
    public static void main(String[] args) {
        steps();
        stepsOfTurnsAndWays();
        failures();
        givenBack();
        tornByTheLast();
        tornByTheLastBack();
        plannedByTheLast();
        noWays();
        Due.end();
    }

    private static HireScopes house(int parts) {
        HireScopes x = new HireScopes();
        for (int p = 0; p < parts; p++) {
            x.part(0, 10);
        }
        return x;
    }

    /** An ACT of 159 STEPS, of 160, of one more. */
    private static void steps() {
        HireScopes x = house(1);
        int n = x.act();
        for (int more = 0; more <= 2; more++) {
            x.wipe(n);
            // BORROW; LOOP and 18 turns more; 19 times 7 LINES; 6 LINES: 159
            Due.add(x, n, 0, 0, 0, 11, 19, 0);
            for (int i = 0; i < 7; i++) {
                x.line(n, 3, 0, 0);
            }
            x.line(n, 16, 0, 0);
            for (int i = 0; i < 6 + more; i++) {
                x.line(n, 3, 0, 0);
            }
            Due.due("159 and " + more, more == 2 ? 2 : 0, x.run(n, 0));
            Due.ran(x, "159 and " + more, more == 2 ? 2 : 0, Math.min(160, 159 + more), 0, 1, 1, 0, -1);
            Due.log(x, "159 and " + more, 0, 0, more == 2 ? 2 : 1, 0);
            x.clean(60);
        }
    }

    /** The 161st STEP may be a turn, a GUARD or a FINISH; then their WAYS do not begin. */
    private static void stepsOfTurnsAndWays() {
        HireScopes x = house(1);
        int n = Due.script(x);
        int body = Due.script(x, 11, 20, 0, 3, 0, 0, 3, 0, 0, 3, 0, 0, 3, 0, 0, 3, 0, 0, 3, 0, 0, 16, 0, 0);
        // BORROW, TRY, CALL, 140 of the LOOP: 143, then 16 to 18 LINES and FAIL
        for (int more = 16; more <= 18; more++) {
            x.wipe(n);
            Due.add(x, n, 0, 0, 0, 13, 0, 0, 7, body, 0);
            for (int i = 0; i < more - 1; i++) {
                x.line(n, 3, 0, 0);
            }
            Due.add(x, n, 8, 0, 0, 14, 0, 0, 16, 0, 0);
            Due.due("GUARD at " + (143 + more + 1), more == 16 ? 0 : 2, x.run(n, 0));
            Due.ran(x, "GUARD", more == 16 ? 0 : 2, 160, more == 18 ? 0 : 1, 1, 2, 0, -1);
            x.clean(60);
            x.wipe(n);
            Due.add(x, n, 0, 0, 0, 13, 0, 0, 7, body, 0);
            for (int i = 0; i < more; i++) {
                x.line(n, 3, 0, 0);
            }
            Due.add(x, n, 15, 0, 0, 16, 0, 0);
            Due.due("FINISH at " + (143 + more + 1), more == 16 ? 0 : 2, x.run(n, 0));
            Due.ran(x, "FINISH", more == 16 ? 0 : 2, 160, 0, 1, 2, 0, -1);
            x.clean(60);
            x.wipe(n);
            Due.add(x, n, 0, 0, 0, 12, 0, 0, 7, body, 0);
            for (int i = 0; i < more - 1; i++) {
                x.line(n, 3, 0, 0);
            }
            Due.add(x, n, 11, 2, 0, 16, 0, 0, 16, 0, 0);
            Due.due("a turn at " + (143 + more + 1), more == 16 ? 0 : 2, x.run(n, 0));
            Due.ran(x, "a turn", more == 16 ? 0 : 2, 160, 0, 1, 3, 0, -1);
            x.clean(60);
        }
    }

    /** 16 FAILURES may be; the 17th ends the RUN, and is none. */
    private static void failures() {
        HireScopes x = house(1);
        int n = x.act();
        for (int turns = 16; turns <= 17; turns++) {
            x.wipe(n);
            Due.add(x, n, 11, turns, 0, 13, 0, 0, 8, 9, 0, 14, 0, 0, 16, 0, 0, 16, 0, 0);
            Due.due(turns + " FAILURES", turns == 16 ? 0 : 2, x.run(n, 0));
            Due.ran(x, turns + " FAILURES", turns == 16 ? 0 : 2, turns == 16 ? 64 : 67, 16, 0, 1, 0, -1);
            Due.failure(x, turns + " FAILURES", 15, 9, n, 2, -1, -1, -1);
            Due.due("failure(16, 0)", HireScopes.UNKNOWN, x.failure(16, 0));
        }
        // of a LINE that FAILS otherwise
        int[] ops = {0, 1, 2, 3, 4, 5, 6, 7};
        for (int op : ops) {
            x.wipe(n);
            Due.add(x, n, 11, 17, 0, 13, 0, 0, op, 5, op == 1 ? 39 : 7, 14, 0, 0, 16, 0, 0, 16, 0, 0);
            Due.due("17 of OP " + op, 2, x.run(n, 0));
            Due.ran(x, "17 of OP " + op, 2, 67, 16, 0, 1, 0, -1);
        }
    }

    /** All SCOPES, the innermost first, each the last LOAN first; what is TORN is LOST and no FAILURE; LEAKS stay. */
    private static void givenBack() {
        HireScopes x = house(6);
        x.plan(2, 1, 1);
        int outer = Due.script(x, 2, 0, 5, 0, 0, 0, 0, 1, 1, 12, 0, 0, 0, 2, 2, 5, 0, 3, 7, 1, 1, 16, 0, 0);
        Due.script(x, 0, 1, 3, 0, 2, 4, 6, 2, 1, 11, 20, 0, 11, 20, 0, 16, 0, 0, 16, 0, 0);
        Due.due("run", 2, x.run(outer, 6));
        Due.ran(x, "given back", 2, 160, 0, 7, 3, 0, -1);
        int[] parts = {3, 4, 2, 1, 0};
        for (int i = 0; i < 5; i++) {
            Due.log(x, "given back", 4 - i, parts[i], 2, parts[i] == 2 ? 1 : 0);
        }
        Due.due("log(5, 0)", HireScopes.NOTHING, x.log(5, 0));
        Due.due("state(2)", 3, x.state(2));
        Due.due("cents(6, 1)", 10, x.cents(6, 1));
        Due.due("leaks()", 1, x.leaks());
        Due.due("leak(0, 0)", 5, x.leak(0, 0));
        Due.due("cents(6, 0)", 10, x.cents(6, 0));
    }

    /** At a SCOPE's end: the PART that would be TORN is LOST by it, the rest is given back SPENT. */
    private static void tornByTheLast() {
        HireScopes x = house(5);
        x.plan(2, 1, 1);
        x.plan(3, 1, 1);
        x.plan(1, 1, 1);
        int n = Due.script(x, 0, 0, 0, 12, 0, 0, 0, 1, 1, 0, 1, 2, 0, 1, 3, 0, 1, 4, 11, 15, 0, 13, 0, 0, 8, 9, 0, 14, 0, 0,
                16, 0, 0, 16, 0, 0, 16, 0, 0);
        Due.due("run", 2, x.run(n, 1));
        Due.ran(x, "torn by the last", 2, 66, 16, 5, 2, 0, -1);
        Due.failure(x, "torn by the last", 15, 6, n, 1, 3, -1, -1);
        Due.log(x, "torn by the last", 4, 4, 1, 0);
        Due.log(x, "torn by the last", 3, 3, 1, 1);
        Due.log(x, "torn by the last", 2, 2, 1, 1);
        Due.log(x, "torn by the last", 1, 1, 2, 1);
        Due.log(x, "torn by the last", 0, 0, 2, 0);
        Due.due("plans", 0, x.plans(false));
        Due.due("cents(1, 1)", 30, x.cents(1, 1));
    }

    private static void tornByTheLastBack() {
        HireScopes x = house(2);
        x.plan(1, 1, 1);
        int n = Due.script(x, 0, 0, 0, 2, 1, 1, 11, 16, 0, 13, 0, 0, 8, 9, 0, 14, 0, 0, 16, 0, 0, 16, 0, 0, 4, 1, 0);
        Due.due("run", 2, x.run(n, 1));
        Due.ran(x, "torn by the last BACK", 2, 67, 16, 2, 1, 0, -1);
        Due.log(x, "torn by the last BACK", 1, 1, 0, 1);
        Due.log(x, "torn by the last BACK", 0, 0, 2, 0);
        Due.due("state(1)", 3, x.state(1));
        Due.due("leaks()", 0, x.leaks());
        Due.due("plans", 0, x.plans(false));
    }

    private static void plannedByTheLast() {
        HireScopes x = house(1);
        x.plan(0, 1, 0);
        int n = Due.script(x, 0, 0, 0, 11, 16, 0, 13, 0, 0, 8, 9, 0, 14, 0, 0, 16, 0, 0, 16, 0, 0, 3, 0, 0);
        Due.due("run", 2, x.run(n, 1));
        Due.due("plans", 0, x.plans(false));
        Due.log(x, "planned by the last", 0, 0, 2, 0);
    }

    /** Behind SPENT no WAY is done: no GUARD has it, no LAST WAY comes, nothing is LET GO or SUPPRESSED. */
    private static void noWays() {
        HireScopes x = house(1);
        int n = Due.script(x, 13, 0, 0, 8, 9, 0, 15, 0, 0, 11, 20, 0, 11, 20, 0, 16, 0, 0, 16, 0, 0, 16, 0, 0);
        Due.due("run", 2, x.run(n, 0));
        Due.ran(x, "no WAYS", 2, 160, 1, 0, 1, 0, -1);
        Due.failure(x, "no WAYS", 0, 9, n, 1, -1, -1, -1);
        x.wipe(n);
        Due.add(x, n, 13, 0, 0, 11, 20, 0, 11, 20, 0, 16, 0, 0, 16, 0, 0, 14, 0, 0, 8, 0, 0, 15, 0, 0, 2, 0, 0, 16, 0, 0);
        Due.due("run", 2, x.run(n, 0));
        Due.ran(x, "no LAST WAY", 2, 160, 0, 0, 1, 0, -1);
        Due.due("leaks()", 0, x.leaks());
    }
}
