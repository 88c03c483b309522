/** Promises 8 to 11: act, line, wipe, fault. */
public final class ActsTest {
    public static void main(String[] args) {
        full();
        wiped();
        faultRefusals();
        numbers();
        blocks();
        nesting();
        breaks();
        noEnd();
        firstLine();
        Due.end();
    }

    private static void full() {
        HireScopes x = new HireScopes();
        for (int n = 0; n < 12; n++) {
            Due.due("act()", n, x.act());
        }
        Due.due("the 13th act()", HireScopes.FULL, x.act());
        for (int i = 1; i <= 40; i++) {
            Due.due("line " + i, i, x.line(11, 9, 0, 0));
        }
        Due.due("the 41st line", HireScopes.FULL, x.line(11, 9, 0, 0));
        Due.due("the 41st line of any numbers", HireScopes.FULL, x.line(11, 99, -1, -1));
        Due.due("line of ACT 12", HireScopes.UNKNOWN, x.line(12, 9, 0, 0));
        Due.due("line of ACT -1", HireScopes.UNKNOWN, x.line(-1, 9, 0, 0));
        Due.due("line of another", 1, x.line(10, 9, 0, 0));
        Due.due("fault", 0, x.fault(11, 0));
    }

    private static void wiped() {
        HireScopes x = new HireScopes();
        int n = Due.script(x, 13, 0, 0, 99, 0, 0, 16, 0, 0);
        Due.due("wipe", 3, x.wipe(n));
        Due.due("wipe again", 0, x.wipe(n));
        Due.due("fault", 0, x.fault(n, 0));
        Due.due("fault's line", HireScopes.NOTHING, x.fault(n, 1));
        Due.due("run of no LINES", 0, x.run(n, 0));
        Due.ran(x, "no LINES", 0, 0, 0, 0, 1, 0, -1);
        Due.due("line", 1, x.line(n, 16, 0, 0));
        Due.due("a BLOCK begun before is gone", 2, x.fault(n, 0));
        Due.due("wipe(1)", HireScopes.UNKNOWN, x.wipe(1));
        Due.due("wipe(-1)", HireScopes.UNKNOWN, x.wipe(-1));
    }

    private static void faultRefusals() {
        HireScopes x = new HireScopes();
        Due.due("fault(0, 0)", HireScopes.UNKNOWN, x.fault(0, 0));
        Due.due("fault(0, 2)", HireScopes.UNKNOWN, x.fault(0, 2));
        x.act();
        Due.due("fault(0, 2)", HireScopes.OUTSIDE, x.fault(0, 2));
        Due.due("fault(0, -1)", HireScopes.OUTSIDE, x.fault(0, -1));
        Due.due("fault(-1, 0)", HireScopes.UNKNOWN, x.fault(-1, 0));
    }

    private static int faultOf(HireScopes x, int... lines) {
        x.wipe(0);
        Due.add(x, 0, lines);
        return x.fault(0, 0);
    }

    /** Each OP with the largest a and b it takes, the first beyond, and what is not looked at. */
    private static void numbers() {
        HireScopes x = new HireScopes();
        x.act();
        int[] largestA = {7, 7, 7, 7, 7, 7, 7, 11, 11, -1};
        int[] largestB = {59, 39, 59, -1, -1, 7, 9, 7, -1, -1};
        for (int op = 0; op < 10; op++) {
            int a = largestA[op], b = largestB[op];
            String name = "OP " + op;
            Due.due(name + " largest", 0, faultOf(x, op, a < 0 ? 99 : a, b < 0 ? 99 : b));
            Due.due(name + " smallest", 0, faultOf(x, op, a < 0 ? -1 : 0, b < 0 ? -1 : 0));
            Due.due(name + " a beyond", a < 0 ? 0 : 1, faultOf(x, op, a + 1, 0));
            Due.due(name + " a below", a < 0 ? 0 : 1, faultOf(x, op, -1, 0));
            Due.due(name + " b beyond", b < 0 ? 0 : 1, faultOf(x, op, 0, b + 1));
            Due.due(name + " b below", b < 0 ? 0 : 1, faultOf(x, op, 0, -1));
        }
        Due.due("LOOP 20", 0, faultOf(x, 11, 20, 99, 16, -1, 99));
        Due.due("LOOP 0", 0, faultOf(x, 11, 0, -1, 16, 0, 0));
        Due.due("LOOP 21", 1, faultOf(x, 11, 21, 0, 16, 0, 0));
        Due.due("LOOP -1", 1, faultOf(x, 11, -1, 0, 16, 0, 0));
        Due.due("LOOP, BREAK", 0, faultOf(x, 11, 1, 0, 10, 99, -1, 16, 0, 0));
        Due.due("SCOPE, TRY, GUARD, FINISH", 0,
                faultOf(x, 12, 99, -1, 13, -1, 99, 14, 11, 99, 14, 0, -1, 15, 99, -1, 16, 0, 0, 16, 0, 0));
        Due.due("GUARD 12", 1, faultOf(x, 13, 0, 0, 14, 12, 0, 16, 0, 0));
        Due.due("GUARD -1", 1, faultOf(x, 13, 0, 0, 14, -1, 0, 16, 0, 0));
        Due.due("OP 17", 1, faultOf(x, 17, 0, 0));
        Due.due("OP -1", 1, faultOf(x, -1, 0, 0));
        Due.due("OP of MIN", 1, faultOf(x, Integer.MIN_VALUE, 0, 0));
        Due.due("numbers before BLOCKS", 1, faultOf(x, 14, 12, 0));
    }

    private static void blocks() {
        HireScopes x = new HireScopes();
        x.act();
        Due.due("END", 2, faultOf(x, 16, 0, 0));
        Due.due("GUARD", 2, faultOf(x, 14, 0, 0));
        Due.due("FINISH", 2, faultOf(x, 15, 0, 0));
        Due.due("END too many", 2, faultOf(x, 12, 0, 0, 16, 0, 0, 16, 0, 0));
        Due.due("GUARD in SCOPE", 2, faultOf(x, 13, 0, 0, 12, 0, 0, 14, 0, 0));
        Due.due("FINISH in LOOP", 2, faultOf(x, 13, 0, 0, 11, 0, 0, 15, 0, 0));
        Due.due("GUARD behind FINISH", 2, faultOf(x, 13, 0, 0, 15, 0, 0, 14, 0, 0));
        Due.due("FINISH behind FINISH", 2, faultOf(x, 13, 0, 0, 15, 0, 0, 15, 0, 0));
        Due.due("GUARD behind END", 2, faultOf(x, 13, 0, 0, 16, 0, 0, 14, 0, 0));
        Due.due("a TRY alone", 0, faultOf(x, 13, 0, 0, 16, 0, 0));
        Due.due("a TRY within a LAST WAY", 0,
                faultOf(x, 13, 0, 0, 15, 0, 0, 13, 0, 0, 14, 0, 0, 15, 0, 0, 16, 0, 0, 16, 0, 0));
        Due.due("a BLOCK within a TRY, then GUARD", 0,
                faultOf(x, 13, 0, 0, 12, 0, 0, 16, 0, 0, 14, 0, 0, 11, 1, 0, 16, 0, 0, 15, 0, 0, 16, 0, 0));
    }

    private static void nesting() {
        HireScopes x = new HireScopes();
        x.act();
        for (int op = 11; op <= 13; op++) {
            x.wipe(0);
            for (int i = 0; i < 8; i++) {
                x.line(0, op, 1, 0);
            }
            Due.due("8 BLOCKS", 5, x.fault(0, 0));
            Due.due("8 BLOCKS", 8, x.fault(0, 1));
            x.line(0, op, 1, 0);
            Due.due("9 BLOCKS", 3, x.fault(0, 0));
            Due.due("9 BLOCKS", 8, x.fault(0, 1));
        }
        x.wipe(0);
        for (int i = 0; i < 8; i++) {
            x.line(0, 12, 1, 0);
        }
        x.line(0, 16, 0, 0);
        x.line(0, 12, 0, 0);
        for (int i = 0; i < 8; i++) {
            x.line(0, 16, 0, 0);
        }
        Due.due("8 BLOCKS, twice", 0, x.fault(0, 0));
        Due.due("run", 0, x.run(0, 0));
        Due.ran(x, "8 BLOCKS, twice", 0, 9, 0, 0, 10);
    }

    private static void breaks() {
        HireScopes x = new HireScopes();
        x.act();
        Due.due("BREAK", 4, faultOf(x, 10, 0, 0));
        Due.due("BREAK behind a LOOP", 4, faultOf(x, 11, 1, 0, 16, 0, 0, 10, 0, 0));
        Due.due("BREAK in a SCOPE", 4, faultOf(x, 12, 0, 0, 10, 0, 0));
        Due.due("BREAK in a LOOP's SCOPE's TRY", 5, faultOf(x, 11, 1, 0, 12, 0, 0, 13, 0, 0, 10, 0, 0));
        Due.due("BREAK in a LAST WAY", 5, faultOf(x, 11, 1, 0, 13, 0, 0, 15, 0, 0, 10, 0, 0));
    }

    private static void noEnd() {
        HireScopes x = new HireScopes();
        x.act();
        Due.due("TRY", 5, faultOf(x, 13, 0, 0));
        Due.due("its LINE", 1, x.fault(0, 1));
        Due.due("run", HireScopes.STATE, x.run(0, 0));
        x.line(0, 15, 0, 0);
        Due.due("its LINE", 2, x.fault(0, 1));
        x.line(0, 16, 0, 0);
        Due.due("TRY FINISH END", 0, x.fault(0, 0));
        Due.due("no LINE", HireScopes.NOTHING, x.fault(0, 1));
        x.wipe(0);
        for (int i = 0; i < 40; i++) {
            x.line(0, i == 0 ? 12 : 9, 0, 0);
        }
        Due.due("40 LINES", 5, x.fault(0, 0));
        Due.due("40 LINES", 40, x.fault(0, 1));
    }

    private static void firstLine() {
        HireScopes x = new HireScopes();
        x.act();
        Due.due("two FAULTS", 4, faultOf(x, 9, 0, 0, 10, 0, 0, 16, 0, 0, 17, 0, 0));
        Due.due("the first LINE", 1, x.fault(0, 1));
        Due.due("a FAULT before a BLOCK without END", 1, faultOf(x, 12, 0, 0, 3, 8, 0));
        Due.due("the first LINE", 1, x.fault(0, 1));
    }
}
