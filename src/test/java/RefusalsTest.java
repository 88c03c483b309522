/**
 * "Calls answer, the first of these that fits: UNKNOWN .., OUTSIDE .., STATE .., FULL; then nothing changes." Each
 * refused call is made on an object of its own; then that object and one without the call are told whole, played on
 * alike, and told again.
 */
public final class RefusalsTest {
    private static final int NOTHING = HireScopes.NOTHING, UNKNOWN = HireScopes.UNKNOWN, OUTSIDE = HireScopes.OUTSIDE,
            STATE = HireScopes.STATE, FULL = HireScopes.FULL;
    private static final int MIN = Integer.MIN_VALUE, MAX = Integer.MAX_VALUE;

    /** One call: its name, its arguments. */
    private static final class Call {
        final String name;
        final int[] with;

        Call(String name, int... with) {
            this.name = name;
            this.with = with;
        }

        long on(HireScopes x) {
            int a = with.length > 0 ? with[0] : 0, b = with.length > 1 ? with[1] : 0, c = with.length > 2 ? with[2] : 0;
            switch (name) {
                case "part": return x.part(a, b);
                case "state": return x.state(a);
                case "clean": return x.clean(a);
                case "cleaning": return x.cleaning(a);
                case "plan": return x.plan(a, b, c);
                case "act": return x.act();
                case "line": return x.line(a, b, c, with[3]);
                case "wipe": return x.wipe(a);
                case "fault": return x.fault(a, b);
                case "run": return x.run(a, b);
                case "ran": return x.ran(a);
                case "failure": return x.failure(a, b);
                case "leak": return x.leak(a, b);
                case "trace": return x.trace(a, b, c);
                case "giveBack": return x.giveBack(a);
                case "cents": return x.cents(a, b);
                default: return x.log(a, b);
            }
        }

        String text() {
            StringBuilder text = new StringBuilder(name).append('(');
            for (int i = 0; i < with.length; i++) {
                text.append(i == 0 ? "" : ", ").append(with[i]);
            }
            return text.append(')').toString();
        }
    }

    public static void main(String[] args) {
        theUsedObject();
        ofANewObject();
        ofAUsedObject();
        ofAFullObject();
        twoThatFit();
        Due.end();
    }

    /** The used object is as it is meant to be, so that what would change behind a refused call is seen. */
    private static void theUsedObject() {
        HireScopes x = object(1);
        Due.ran(x, "the used object", 1, 15, 4, 4, 2, 1, 3);
        Due.failure(x, "the used object", 0, 8, 1, 6, NOTHING, NOTHING, NOTHING);
        Due.failure(x, "the used object", 1, 9, 1, 11, NOTHING, NOTHING, NOTHING);
        Due.failure(x, "the used object", 2, 6, 1, NOTHING, 3, NOTHING, 1);
        Due.failure(x, "the used object", 3, 3, 0, 4, NOTHING, 1, NOTHING);
        Due.cleaning(x, "the used object", 4, 2);
        int[] states = {1, 1, 2, 3, 2, 0};
        for (int p = 0; p < 6; p++) {
            Due.due("STATE of " + p, states[p], x.state(p));
        }
        Due.due("LEAKS", 2, x.leaks());
        Due.due("TRACE of LEAK 1", 2, x.leak(1, 2));
        Due.due("PLANS", 3, x.plans(false));
        Due.log(x, "the used object", 3, 5, 1, 0);
        Due.log(x, "the used object", 4, NOTHING);
        HireScopes full = object(2);
        Due.due("PARTS are full", 0, full.state(59));
        Due.due("PLANS are full", 30, full.plans(false));
        Due.due("ACTS are full", 0, full.fault(11, 0));
        Due.due("LINES are full", 40, full.wipe(0));
    }

    /** Refused calls of an object that has nothing yet. */
    private static void ofANewObject() {
        int[] odds = {MIN, -1, 0, 1, 60, MAX};
        for (int i : odds) {
            refused(0, UNKNOWN, "state", i);
            refused(0, UNKNOWN, "plan", i, 1, 0);
            refused(0, UNKNOWN, "line", i, 9, 0, 0);
            refused(0, UNKNOWN, "wipe", i);
            refused(0, UNKNOWN, "fault", i, 0);
            refused(0, UNKNOWN, "run", i, 0);
            refused(0, UNKNOWN, "failure", i, 0);
            refused(0, UNKNOWN, "leak", i, 0);
            refused(0, UNKNOWN, "trace", i, 0, 0);
            refused(0, UNKNOWN, "giveBack", i);
            refused(0, NOTHING, "cleaning", i);
            refused(0, NOTHING, "log", i, 0);
        }
    }

    /** Each call with each argument on both sides beyond its bounds, the others being right. */
    private static void ofAUsedObject() {
        int[] sorts = {MIN, -1, 40, MAX}, centses = {MIN, -1, 100001, MAX}, cleans = {MIN, -1, 61, MAX};
        int[] parts = {MIN, -1, 6, 59, 60, MAX}, uses = {MIN, -1, 0, 21, MAX}, two = {MIN, -1, 2, MAX};
        int[] acts = {MIN, -1, 3, 11, 12, MAX}, customers = {MIN, -1, 8, MAX}, seven = {MIN, -1, 7, MAX};
        int[] six = {MIN, -1, 6, MAX}, three = {MIN, -1, 3, MAX}, failures = {MIN, -1, 4, 16, MAX};
        int[] leaks = {MIN, -1, 2, 60, MAX}, places = {MIN, -1, 2, 60, MAX}, logged = {MIN, -1, 4, 60, MAX};
        for (int i : sorts) refused(1, OUTSIDE, "part", i, 0);
        for (int i : centses) refused(1, OUTSIDE, "part", 0, i);
        for (int i : parts) refused(1, UNKNOWN, "state", i);
        for (int i : cleans) refused(1, OUTSIDE, "clean", i);
        for (int i : places) refused(1, NOTHING, "cleaning", i);
        for (int i : parts) refused(1, UNKNOWN, "plan", i, 1, 1);
        for (int i : uses) refused(1, OUTSIDE, "plan", 0, i, 0);
        for (int i : two) refused(1, OUTSIDE, "plan", 0, 1, i);
        for (int i : acts) refused(1, UNKNOWN, "line", i, 9, 0, 0);
        for (int i : acts) refused(1, UNKNOWN, "wipe", i);
        for (int i : acts) refused(1, UNKNOWN, "fault", i, 1);
        for (int i : two) refused(1, OUTSIDE, "fault", 2, i);
        for (int i : acts) refused(1, UNKNOWN, "run", i, 0);
        for (int i : customers) refused(1, UNKNOWN, "run", 0, i);
        refused(1, STATE, "run", 2, 0);
        for (int i : seven) refused(1, OUTSIDE, "ran", i);
        for (int i : failures) refused(1, UNKNOWN, "failure", i, 0);
        for (int i : six) refused(1, OUTSIDE, "failure", 0, i);
        for (int i : leaks) refused(1, UNKNOWN, "leak", i, 0);
        for (int i : three) refused(1, OUTSIDE, "leak", 1, i);
        for (int i : leaks) refused(1, UNKNOWN, "trace", i, 0, 0);
        for (int i : leaks) refused(1, UNKNOWN, "trace", 1, i, 0);
        for (int i : two) refused(1, OUTSIDE, "trace", 1, 1, i);
        for (int i : leaks) refused(1, UNKNOWN, "giveBack", i);
        for (int i : customers) refused(1, UNKNOWN, "cents", i, 0);
        for (int i : two) refused(1, OUTSIDE, "cents", 0, i);
        for (int i : logged) refused(1, NOTHING, "log", i, 0);
        for (int i : three) refused(1, OUTSIDE, "log", 0, i);
    }

    private static void ofAFullObject() {
        refused(2, FULL, "part", 0, 0);
        refused(2, FULL, "part", 39, 100000);
        refused(2, FULL, "plan", 0, 1, 0);
        refused(2, FULL, "plan", 59, 20, 1);
        refused(2, FULL, "act");
        refused(2, FULL, "line", 0, 9, 0, 0);
        refused(2, FULL, "line", 0, 16, 0, 0);
        refused(2, FULL, "line", 0, 17, -1, -1);
    }

    /** Where two or three refusals fit, the first of them: UNKNOWN, OUTSIDE, STATE, FULL. */
    private static void twoThatFit() {
        int[] out = {-1, 99};
        for (int i : out) {
            // UNKNOWN before OUTSIDE
            refused(1, UNKNOWN, "plan", i, 0, 0);
            refused(1, UNKNOWN, "plan", i, 1, 2);
            refused(1, UNKNOWN, "plan", i, i, i);
            refused(1, UNKNOWN, "fault", i, 2);
            refused(1, UNKNOWN, "failure", i, 6);
            refused(1, UNKNOWN, "leak", i, 3);
            refused(1, UNKNOWN, "trace", i, 0, 2);
            refused(1, UNKNOWN, "trace", 0, i, 2);
            refused(1, UNKNOWN, "trace", i, i, i);
            refused(1, UNKNOWN, "cents", i, 2);
            // UNKNOWN before STATE: ACT 2 is not SOUND
            refused(1, UNKNOWN, "run", 2, i);
            refused(1, UNKNOWN, "run", i, i);
            // OUTSIDE of what, though there is nothing at that place
            refused(1, OUTSIDE, "log", i, 3);
            refused(1, OUTSIDE, "log", i, -1);
            // UNKNOWN and OUTSIDE before FULL
            refused(2, UNKNOWN, "plan", i, 1, 0);
            refused(2, UNKNOWN, "plan", i, 0, 2);
            refused(2, OUTSIDE, "plan", 0, i, 0);
            refused(2, OUTSIDE, "plan", 0, 1, i);
            refused(2, OUTSIDE, "part", i, 0);
            refused(2, OUTSIDE, "part", 0, i == -1 ? -1 : 100001);
            refused(2, UNKNOWN, "line", i, 9, 0, 0);
            refused(2, UNKNOWN, "line", i, 99, 0, 0);
        }
    }

    /** The call on an object of a sort, and what has changed behind it. */
    private static void refused(int sort, long want, String name, int... with) {
        Call call = new Call(name, with);
        HireScopes x = object(sort);
        Due.due(call.text() + " of object " + sort, want, call.on(x));
        Due.due(call.text() + " of object " + sort + " again", want, call.on(x));
        long[] due = told(sort);
        long[] got = tell(x, sort);
        for (int i = 0; i < due.length; i++) {
            Due.due(call.text() + " of object " + sort + ", behind it answer " + i, due[i], got[i]);
        }
    }

    private static final long[][] TOLD = new long[3][];

    private static long[] told(int sort) {
        if (TOLD[sort] == null) {
            TOLD[sort] = tell(object(sort), sort);
        }
        return TOLD[sort];
    }

    private static HireScopes object(int sort) {
        HireScopes x = new HireScopes();
        if (sort == 1) {
            use(x);
        }
        if (sort == 2) {
            fill(x);
        }
        return x;
    }

    /**
     * Six PARTS, of each STATE, three PLANS left, ACT 2 with a FAULT, two LEAKS, four givings back; the latest RUN had
     * four FAILURES: one LET GO, one guarded, one SUPPRESSED UNDER that, one that has it as its CAUSE.
     */
    private static void use(HireScopes x) {
        for (int p = 0; p < 6; p++) {
            x.part(p % 2, 100 + p);
        }
        x.plan(3, 1, 1);
        x.plan(0, 2, 0);
        x.plan(1, 1, 1);
        x.plan(5, 2, 1);
        Lines.of(x).hold(0, 0).tries().call(1, 0).guard(9).use(7).end();
        Lines.of(x).hold(1, 1).borrow(2, 2).borrow(3, 3).use(0).loop(1).tries().fail(8).finish().breaks().end().end()
                .fail(9);
        Lines.of(x).borrow(0, 4).borrow(1, 5);
        x.run(2, 3);
        x.clean(1);
        Lines.anew(x, 2).scope();
        x.run(0, 6);
    }

    /** 60 PARTS, 30 PLANS, 12 ACTS, 40 LINES of ACT 0. */
    private static void fill(HireScopes x) {
        for (int p = 0; p < 60; p++) {
            x.part(p % 40, p);
        }
        for (int i = 0; i < 30; i++) {
            x.plan(i, 1 + i % 20, i % 2);
        }
        for (int n = 0; n < 12; n++) {
            x.act();
        }
        Lines.anew(x, 0).uses(1, 0).times(39, 12, 0, 0);
    }

    private static final class Answers {
        private final long[] answers = new long[512];
        private int count;

        void add(long answer) {
            answers[count] = answer;
            count++;
        }

        long[] all() {
            return java.util.Arrays.copyOf(answers, count);
        }
    }

    /** All that an object answers; then it is played on, by calls that tell PLANS, LINES and numbers, and told again. */
    private static long[] tell(HireScopes x, int sort) {
        Answers answers = new Answers();
        look(x, answers, sort == 2 ? 8 : 7);
        answers.add(x.part(39, 7));
        answers.add(x.act());
        answers.add(x.wipe(2));
        answers.add(x.giveBack(0));
        answers.add(x.clean(1));
        answers.add(x.run(0, 1));
        answers.add(x.clean(60));
        answers.add(x.wipe(0));
        answers.add(x.wipe(1));
        Lines.anew(x, 0).borrow(0, 0).use(0);
        answers.add(x.run(0, 7));
        answers.add(x.giveBack(0));
        look(x, answers, sort == 2 ? 4 : 7);
        return answers.all();
    }

    private static void look(HireScopes x, Answers answers, int parts) {
        for (int p = 0; p < parts; p++) {
            answers.add(x.state(p));
            answers.add(x.cleaning(p));
        }
        answers.add(x.plans(false));
        for (int n = 0; n < 4; n++) {
            answers.add(x.fault(n, 0));
            answers.add(x.fault(n, 1));
        }
        for (int what = 0; what < 7; what++) {
            answers.add(x.ran(what));
        }
        for (int i = 0; i < 5; i++) {
            for (int what = 0; what < 6 && x.failure(i, 0) >= 0; what++) {
                answers.add(x.failure(i, what));
            }
        }
        answers.add(x.leaks());
        for (int i = 0; i < 3 && x.leak(i, 0) >= 0; i++) {
            for (int what = 0; what < 3; what++) {
                answers.add(x.leak(i, what));
                answers.add(x.trace(i, what / 2, what % 2));
            }
        }
        for (int c = 0; c < 8; c++) {
            answers.add(x.cents(c, 0));
            answers.add(x.cents(c, 1));
        }
        for (int i = 0; i < 9 && x.log(i, 0) >= 0; i++) {
            for (int what = 0; what < 3; what++) {
                answers.add(x.log(i, what));
            }
        }
    }
}
