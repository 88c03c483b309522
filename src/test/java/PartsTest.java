/** Promises 1 to 5: a new object, part, state, clean, cleaning. */
public final class PartsTest {
    public static void main(String[] args) {
        newObject();
        partBounds();
        partsFull();
        cleaningLine();
        Due.end();
    }

    private static void newObject() {
        HireScopes x = new HireScopes();
        Due.due("state(0)", HireScopes.UNKNOWN, x.state(0));
        Due.due("cleaning(0)", HireScopes.NOTHING, x.cleaning(0));
        Due.due("clean(60)", 0, x.clean(60));
        Due.due("plans(false)", 0, x.plans(false));
        Due.due("fault(0, 0)", HireScopes.UNKNOWN, x.fault(0, 0));
        Due.due("wipe(0)", HireScopes.UNKNOWN, x.wipe(0));
        Due.due("line(0, 9, 0, 0)", HireScopes.UNKNOWN, x.line(0, 9, 0, 0));
        Due.due("run(0, 0)", HireScopes.UNKNOWN, x.run(0, 0));
        Due.ran(x, "before a RUN", 0, 0, 0, 0, 0, 0, HireScopes.NOTHING);
        Due.due("failure(0, 0)", HireScopes.UNKNOWN, x.failure(0, 0));
        Due.due("leaks()", 0, x.leaks());
        Due.due("leak(0, 0)", HireScopes.UNKNOWN, x.leak(0, 0));
        Due.due("giveBack(0)", HireScopes.UNKNOWN, x.giveBack(0));
        for (int c = 0; c < 8; c++) {
            Due.due("cents(" + c + ", 0)", 0, x.cents(c, 0));
            Due.due("cents(" + c + ", 1)", 0, x.cents(c, 1));
        }
        Due.log(x, "a new object", 0, HireScopes.NOTHING, HireScopes.NOTHING, HireScopes.NOTHING);
        Due.due("act()", 0, x.act());
        Due.due("part(0, 0)", 0, x.part(0, 0));
    }

    private static void partBounds() {
        HireScopes x = new HireScopes();
        Due.due("part(-1, 0)", HireScopes.OUTSIDE, x.part(-1, 0));
        Due.due("part(40, 0)", HireScopes.OUTSIDE, x.part(40, 0));
        Due.due("part(0, -1)", HireScopes.OUTSIDE, x.part(0, -1));
        Due.due("part(0, 100001)", HireScopes.OUTSIDE, x.part(0, 100001));
        Due.due("part(MIN, MAX)", HireScopes.OUTSIDE, x.part(Integer.MIN_VALUE, Integer.MAX_VALUE));
        Due.due("part(0, 0)", 0, x.part(0, 0));
        Due.due("part(39, 100000)", 1, x.part(39, 100000));
        Due.due("state(0)", 0, x.state(0));
        Due.due("state(1)", 0, x.state(1));
        Due.due("state(2)", HireScopes.UNKNOWN, x.state(2));
        Due.due("state(-1)", HireScopes.UNKNOWN, x.state(-1));
    }

    private static void partsFull() {
        HireScopes x = new HireScopes();
        for (int p = 0; p < 60; p++) {
            Due.due("part", p, x.part(p % 40, p));
        }
        Due.due("the 61st part", HireScopes.FULL, x.part(0, 0));
        Due.due("the 61st part, OUTSIDE too", HireScopes.OUTSIDE, x.part(40, 0));
        Due.due("state(59)", 0, x.state(59));
        Due.due("state(60)", HireScopes.UNKNOWN, x.state(60));
    }

    /** Four STATES, and THE CLEANING's order: what comes stands last, the first ones go. */
    private static void cleaningLine() {
        HireScopes x = new HireScopes();
        for (int p = 0; p < 5; p++) {
            x.part(0, 10);
        }
        x.plan(4, 1, 1);
        int n = Due.script(x, 0, 0, 2, 0, 1, 0, 4, 0, 0, 2, 2, 1, 0, 3, 3, 0, 4, 4);
        Due.due("run", 1, x.run(n, 0));
        Due.due("state(0)", 2, x.state(0));
        Due.due("state(1)", 1, x.state(1));
        Due.due("state(2)", 2, x.state(2));
        Due.due("state(3)", 2, x.state(3));
        Due.due("state(4)", 3, x.state(4));
        int[] line = {2, 3, 0};
        for (int i = 0; i < 3; i++) {
            Due.due("cleaning(" + i + ")", line[i], x.cleaning(i));
        }
        Due.due("cleaning(3)", HireScopes.NOTHING, x.cleaning(3));
        Due.due("cleaning(-1)", HireScopes.NOTHING, x.cleaning(-1));
        Due.due("cleaning(60)", HireScopes.NOTHING, x.cleaning(60));
        Due.due("clean(-1)", HireScopes.OUTSIDE, x.clean(-1));
        Due.due("clean(61)", HireScopes.OUTSIDE, x.clean(61));
        Due.due("clean(0)", 0, x.clean(0));
        Due.due("clean(2)", 2, x.clean(2));
        Due.due("state(2)", 0, x.state(2));
        Due.due("state(3)", 0, x.state(3));
        Due.due("state(0)", 2, x.state(0));
        Due.due("cleaning(0)", 0, x.cleaning(0));
        Due.due("cleaning(1)", HireScopes.NOTHING, x.cleaning(1));
        Due.due("giveBack(0)", 1, x.giveBack(0));
        Due.due("cleaning(1)", 1, x.cleaning(1));
        Due.due("clean(60)", 2, x.clean(60));
        Due.due("state(1)", 0, x.state(1));
        Due.due("state(4)", 3, x.state(4));
    }
}
