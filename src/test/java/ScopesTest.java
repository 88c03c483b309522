/** Promises 12 to 14, the SCOPES: what their ends give back on each way, and the FAILURES of that. */
public final class ScopesTest {
    public static void main(String[] args) {
        inReverse();
        onEachWay();
        tornByEnd();
        tornUnderWhatIsOnItsWay();
        tornInPlaceOfReturn();
        tornInPlaceOfBreak();
        tornInInnerAct();
        tornByBack();
        Due.end();
    }

    private static HireScopes house(int parts) {
        HireScopes x = new HireScopes();
        for (int p = 0; p < parts; p++) {
            x.part(0, 10);
        }
        return x;
    }

    private static void cleaning(HireScopes x, String name, int... want) {
        for (int i = 0; i < want.length; i++) {
            Due.due(name + ": cleaning(" + i + ")", want[i], x.cleaning(i));
        }
        Due.due(name + ": cleaning(" + want.length + ")", HireScopes.NOTHING, x.cleaning(want.length));
    }

    private static void inReverse() {
        HireScopes x = house(4);
        int n = Due.script(x, 0, 0, 3, 12, 0, 0, 0, 0, 0, 0, 0, 1, 0, 0, 2, 16, 0, 0);
        Due.due("run", 0, x.run(n, 0));
        cleaning(x, "in reverse", 2, 1, 0, 3);
    }

    /** A SCOPE gives back by END, RETURN, BREAK and a FAILURE alike. */
    private static void onEachWay() {
        int[] ops = {3, 9, 10, 8};
        for (int op : ops) {
            HireScopes x = house(2);
            int n = Due.script(x, 11, 1, 0, 0, 0, 0, 12, 0, 0, 0, 1, 1, op, 0, 0, 16, 0, 0, 16, 0, 0);
            Due.due("OP " + op, op == 8 ? 1 : 0, x.run(n, 0));
            cleaning(x, "OP " + op, 1, 0);
            Due.ran(x, "OP " + op, op == 8 ? 1 : 0, 5, op == 8 ? 1 : 0, 2, 2, 0, op == 8 ? 0 : -1);
            Due.log(x, "OP " + op, 0, 0, 1, 0);
            Due.log(x, "OP " + op, 1, 1, 1, 0);
        }
    }

    /** By END: the first that is TORN is on its way, the others are SUPPRESSED UNDER it; all are given back. */
    private static void tornByEnd() {
        HireScopes x = house(4);
        x.plan(0, 1, 1);
        x.plan(1, 1, 1);
        x.plan(3, 1, 1);
        int n = Due.script(x, 12, 0, 0, 0, 0, 0, 0, 0, 1, 0, 0, 2, 0, 0, 3, 16, 0, 0, 8, 0, 0);
        Due.due("run", 1, x.run(n, 0));
        Due.ran(x, "by END", 1, 5, 3, 4, 2, 0, 0);
        Due.failure(x, "by END", 0, 6, n, 0, 3, -1, -1);
        Due.failure(x, "by END", 1, 6, n, 0, 1, -1, 0);
        Due.failure(x, "by END", 2, 6, n, 0, 0, -1, 0);
        cleaning(x, "by END", 2);
        Due.log(x, "by END", 0, 0, 1, 1);
        Due.log(x, "by END", 1, 1, 1, 1);
        Due.log(x, "by END", 2, 2, 1, 0);
        Due.log(x, "by END", 3, 3, 1, 1);
    }

    private static void tornUnderWhatIsOnItsWay() {
        HireScopes x = house(3);
        x.plan(0, 1, 1);
        x.plan(1, 1, 1);
        x.plan(2, 1, 1);
        int n = Due.script(x, 0, 0, 0, 12, 0, 0, 0, 1, 1, 0, 1, 2, 8, 10, 0, 16, 0, 0);
        Due.due("run", 1, x.run(n, 0));
        Due.ran(x, "by a FAILURE", 1, 5, 4, 3, 2, 0, 0);
        Due.failure(x, "by a FAILURE", 0, 10, n, 4, -1, -1, -1);
        Due.failure(x, "by a FAILURE", 1, 6, n, 1, 2, -1, 0);
        Due.failure(x, "by a FAILURE", 2, 6, n, 1, 1, -1, 0);
        Due.failure(x, "by a FAILURE", 3, 6, n, -1, 0, -1, 0);
    }

    private static void tornInPlaceOfReturn() {
        HireScopes x = house(2);
        x.plan(1, 1, 1);
        int outer = Due.script(x, 13, 0, 0, 7, 1, 0, 14, 6, 0, 16, 0, 0, 0, 5, 0);
        int inner = Due.script(x, 12, 0, 0, 0, 0, 1, 9, 0, 0, 16, 0, 0, 8, 9, 0);
        Due.due("run", 0, x.run(outer, 0));
        Due.ran(x, "in place of RETURN", 0, 7, 1, 2, 3, 0, -1);
        Due.failure(x, "in place of RETURN", 0, 6, inner, 0, 1, -1, -1);
    }

    /** A BREAK that a TORN PART takes the place of leaves the LOOP as a FAILURE, and it is not LET GO. */
    private static void tornInPlaceOfBreak() {
        HireScopes x = house(1);
        x.plan(0, 1, 1);
        int n = Due.script(x, 11, 3, 0, 12, 0, 0, 0, 0, 0, 10, 0, 0, 16, 0, 0, 16, 0, 0);
        Due.due("run", 1, x.run(n, 0));
        Due.ran(x, "in place of BREAK", 1, 4, 1, 1, 2, 0, 0);
        Due.failure(x, "in place of BREAK", 0, 6, n, 1, 0, -1, -1);
    }

    /** An ACT's own SCOPE has no LINE; the FAILURE of its end goes on where it was called. */
    private static void tornInInnerAct() {
        HireScopes x = house(1);
        x.plan(0, 1, 1);
        int outer = Due.script(x, 7, 1, 0, 8, 0, 0);
        int inner = Due.script(x, 0, 0, 0);
        Due.due("run", 1, x.run(outer, 0));
        Due.ran(x, "an ACT's end", 1, 2, 1, 1, 2, 0, 0);
        Due.failure(x, "an ACT's end", 0, 6, inner, -1, 0, -1, -1);
    }

    private static void tornByBack() {
        HireScopes x = house(2);
        x.plan(0, 1, 1);
        x.plan(1, 1, 1);
        int n = Due.script(x, 2, 0, 1, 5, 0, 1, 13, 0, 0, 4, 0, 0, 14, 5, 0, 3, 1, 0, 16, 0, 0);
        Due.due("run", 1, x.run(n, 0));
        Due.failure(x, "BACK", 0, 6, n, 3, 1, -1, -1);
        Due.failure(x, "behind it", 1, 3, n, 5, 1, 0, -1);
        Due.log(x, "BACK", 0, 1, 0, 1);
        Due.due("leaks()", 0, x.leaks());
        Due.due("cents(0, 1)", 10, x.cents(0, 1));
    }
}
