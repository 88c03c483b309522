/** Every SOUND ACT of up to four LINES of some twenty, with an ACT that it may call, on HireScopes and on Model. */
public final class SmallActsTest {
    private static final int MOST = 4, PARTS = 5, CALL = 7;

    private static final int[][] LINES = {
        {0, 0, 0}, {0, 1, 1}, {2, 2, 2}, {3, 0, 0}, {4, 0, 0}, {5, 0, 1}, {6, 0, 1}, {8, 9, 0}, {8, 5, 0}, {9, 0, 0},
        {10, 0, 0}, {11, 2, 0}, {11, 0, 0}, {12, 0, 0}, {13, 0, 0}, {14, 9, 0}, {14, 5, 0}, {15, 0, 0}, {16, 0, 0},
        {CALL, 1, 0}};

    // What ACT 1 may be: it uses and hands on; it gives back and FAILS; it calls itself; it lends on and holds.
    private static final int[][][] CALLED = {
        {{3, 0, 0}, {6, 0, 1}, {0, 1, 1}},
        {{4, 0, 0}, {8, 10, 0}},
        {{13, 0, 0}, {CALL, 1, 0}, {15, 0, 0}, {9, 0, 0}, {16, 0, 0}},
        {{0, 2, 3}, {5, 0, 1}, {5, 1, 2}, {6, 2, 1}, {2, 3, 4}}};

    private static final int[][][] PLANS = {
        {},
        {{0, 1, 1}, {1, 1, 1}, {2, 1, 1}, {3, 1, 1}},
        {{0, 2, 0}, {0, 1, 0}, {1, 1, 1}, {2, 2, 1}}};

    private static final int[] chosen = new int[MOST];
    private static int runs;

    private static HireScopes x;
    private static Model m;
    private static String name;

    public static void main(String[] args) {
        choose(0);
        System.out.println(runs + " runs");
        if (runs < 10000) {
            Due.due("the runs are many", 1, 0);
        }
        Due.end();
    }

    /** Each LINE at a place, behind those that were chosen before it. */
    private static void choose(int length) {
        if (Due.wrongs() > 20) {
            return;
        }
        boolean mayGoOn = playAll(length);
        for (int k = 0; k < LINES.length && mayGoOn && length < MOST; k++) {
            chosen[length] = k;
            choose(length + 1);
        }
    }

    /** Plays the ACT of these LINES; answers whether LINES more could still make it SOUND. */
    private static boolean playAll(int length) {
        make(length, CALLED[0], PLANS[0]);
        int fault = m.fault(0, 0);
        Due.due(name + "fault(0, 0)", fault, x.fault(0, 0));
        Due.due(name + "fault(0, 1)", m.fault(0, 1), x.fault(0, 1));
        if (fault == 0) {
            for (int v = 0; v < (calls(length) ? CALLED.length : 1); v++) {
                for (int[][] plans : PLANS) {
                    make(length, CALLED[v], plans);
                    name += ", ACT 1 the " + v + "th: ";
                    playTwice();
                }
            }
        }
        return fault == 0 || fault == 5;
    }

    private static boolean calls(int length) {
        for (int i = 0; i < length; i++) {
            if (LINES[chosen[i]][0] == CALL) {
                return true;
            }
        }
        return false;
    }

    private static void make(int length, int[][] called, int[][] plans) {
        x = new HireScopes();
        m = new Model();
        name = "";
        for (int p = 0; p < PARTS; p++) {
            Due.due("part", m.part(p % 2, 10 + p), x.part(p % 2, 10 + p));
        }
        Due.due("act", m.act() + m.act(), x.act() + x.act());
        for (int i = 0; i < length; i++) {
            name += java.util.Arrays.toString(LINES[chosen[i]]);
            line(0, LINES[chosen[i]]);
        }
        for (int[] each : called) {
            line(1, each);
        }
        for (int[] plan : plans) {
            Due.due("plan", m.plan(plan[0], plan[1], plan[2]), x.plan(plan[0], plan[1], plan[2]));
        }
    }

    private static void line(int n, int[] line) {
        Due.due("line", m.line(n, line[0], line[1], line[2]), x.line(n, line[0], line[1], line[2]));
    }

    /** The second RUN meets what the first left: LEAKS, PARTS that are LOST or in THE CLEANING, PLANS. */
    private static void playTwice() {
        for (int c = 0; c < 2; c++) {
            runs++;
            Due.due(name + "run(0, " + c + ")", m.run(0, c), x.run(0, c));
            compareRun();
            compareHouse();
            Due.due(name + "clean(2)", m.clean(2), x.clean(2));
        }
        Due.due(name + "giveBack(0)", m.giveBack(0), x.giveBack(0));
        compareHouse();
    }

    private static void compareRun() {
        for (int what = 0; what < 7; what++) {
            Due.due(name + "ran(" + what + ")", m.ran(what), x.ran(what));
        }
        for (int i = 0; i <= m.ran(2); i++) {
            for (int what = 0; what < 6; what++) {
                Due.due(name + "failure(" + i + ", " + what + ")", m.failure(i, what), x.failure(i, what));
            }
        }
    }

    private static void compareHouse() {
        for (int p = 0; p < PARTS; p++) {
            Due.due(name + "state(" + p + ")", m.state(p), x.state(p));
            Due.due(name + "cleaning(" + p + ")", m.cleaning(p), x.cleaning(p));
        }
        for (int c = 0; c < 2; c++) {
            Due.due(name + "cents(" + c + ", 0)", m.cents(c, 0), x.cents(c, 0));
            Due.due(name + "cents(" + c + ", 1)", m.cents(c, 1), x.cents(c, 1));
        }
        for (int i = 0; i < 8; i++) {
            for (int what = 0; what < 3; what++) {
                Due.due(name + "log(" + i + ", " + what + ")", m.log(i, what), x.log(i, what));
            }
        }
        Due.due(name + "plans(false)", m.plans(false), x.plans(false));
        Due.due(name + "leaks()", m.leaks(), x.leaks());
        for (int i = 0; i < m.leaks(); i++) {
            for (int what = 0; what < 3; what++) {
                Due.due(name + "leak(" + i + ", " + what + ")", m.leak(i, what), x.leak(i, what));
            }
            for (int k = 0; k <= m.leak(i, 2); k++) {
                Due.due(name + "trace(" + i + ", " + k + ", 0)", m.trace(i, k, 0), x.trace(i, k, 0));
                Due.due(name + "trace(" + i + ", " + k + ", 1)", m.trace(i, k, 1), x.trace(i, k, 1));
            }
        }
    }
}
