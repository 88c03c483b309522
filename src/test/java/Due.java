/** What the tests share: it prints each answer that is not the one that is due, and ends a test. */
final class Due {
    private static int wrong;

    private Due() {
    }

    static void due(String call, long want, long got) {
        if (got != want) {
            wrong++;
            System.out.println(call + " answered " + got + ", due is " + want);
        }
    }

    static int wrongs() {
        return wrong;
    }

    static void end() {
        System.out.println(wrong == 0 ? "all answers are as due" : wrong + " answers are not as due");
        if (wrong != 0) {
            System.exit(1);
        }
    }

    /** A new ACT with these LINES, each an op, an a, a b; its number. */
    static int script(HireScopes x, int... lines) {
        int n = x.act();
        add(x, n, lines);
        return n;
    }

    static void add(HireScopes x, int n, int... lines) {
        for (int i = 0; i + 2 < lines.length; i += 3) {
            x.line(n, lines[i], lines[i + 1], lines[i + 2]);
        }
    }

    /** The latest RUN: what it ended by, STEPS, FAILURES, LOANS, SCOPES, LET GO, the FAILURE it ended by. */
    static void ran(HireScopes x, String name, int... want) {
        for (int what = 0; what < want.length; what++) {
            due(name + ": ran(" + what + ")", want[what], x.ran(what));
        }
    }

    /** A FAILURE: KIND, ACT, LINE, PART, CAUSE, SUPPRESSED UNDER. */
    static void failure(HireScopes x, String name, int i, int... want) {
        for (int what = 0; what < want.length; what++) {
            due(name + ": failure(" + i + ", " + what + ")", want[what], x.failure(i, what));
        }
    }

    /** THE LOG's i-th latest: PART, how, whether LOST. */
    static void log(HireScopes x, String name, int i, int... want) {
        for (int what = 0; what < want.length; what++) {
            due(name + ": log(" + i + ", " + what + ")", want[what], x.log(i, what));
        }
    }

    /** THE CLEANING: these PARTS in this order, and no more. */
    static void cleaning(HireScopes x, String name, int... want) {
        for (int i = 0; i < want.length; i++) {
            due(name + ": cleaning(" + i + ")", want[i], x.cleaning(i));
        }
        due(name + ": cleaning(" + want.length + ")", HireScopes.NOTHING, x.cleaning(want.length));
    }

    /** A house of so many PARTS of SORT 0, each worth ten cents. */
    static HireScopes house(int parts) {
        HireScopes x = new HireScopes();
        for (int p = 0; p < parts; p++) {
            x.part(0, 10);
        }
        return x;
    }
}
