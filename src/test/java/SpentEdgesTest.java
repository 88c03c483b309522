/** ==== 3 of the document, of STEPS and SPENT: the edges, each in a test of its own. */
public final class SpentEdgesTest {
    private static final int NOTHING = HireScopes.NOTHING, UNKNOWN = HireScopes.UNKNOWN;
    private static final int END = 16, RETURN = 9, BREAK = 10, FAIL = 8;
    private static final int[] WAYS = {END, RETURN, BREAK, FAIL};

    public static void main(String[] args) {
        eachOpAsTheLastStep();
        eachOpAsOneStepTooMany();
        endIsNoStep();
        aTurnAsTheLastStep();
        aGuardAsTheLastStep();
        finishBehindABody();
        finishBehindAWay();
        turnsOfALoopOfNone();
        sixteenAndSeventeen();
        deepAsTheSeventeenth();
        tornByAScopesEndAsTheSeventeenth();
        tornUnderTheSixteenth();
        tornByTheActsOwnEnd();
        tornByACalledActsEnd();
        whatIsLeftOfThatScope();
        plannedAsTheSeventeenth();
        suppressedBySpentNone();
        stepsBeforeFailures();
        mostStepsAndMostFailures();
        mostLoans();
        fromTheInnermost();
        tornBySpentIsLost();
        longLoansAndTheirSubLoans();
        nextRunBeginsAnew();
        manySpentRuns();
        Due.end();
    }

    /** An ACT that does 140 STEPS, a USE of its SLOT 0 each but for the LOOP and its turns. */
    private static int filler(HireScopes x) {
        return Lines.of(x).loop(20).uses(6, 0).end().act;
    }

    /**
     * LINES that do so many STEPS, 143 to 163, in a LOOP of one turn: PART 0 is borrowed into SLOT 0, one SCOPE was
     * ended. ACT 0 is the filler.
     */
    private static Lines steps(HireScopes x, int n, int steps) {
        return Lines.anew(x, n).loop(1).borrow(0, 0).call(0, 0).uses(steps - 143, 0);
    }

    private static final int[][] OPS = {{0, 1, 1}, {1, 1, 0}, {2, 1, 1}, {3, 0, 0}, {4, 0, 0}, {5, 0, 1}, {6, 0, 0},
        {7, 2, 0}, {8, 9, 0}, {9, 0, 0}, {10, 0, 0}, {11, 0, 0}, {11, 1, 0}, {12, 0, 0}, {13, 0, 0}};

    /** ACT 0 is the filler, ACT 1 the one that is run, ACT 2 has no LINES. */
    private static HireScopes houseOfThreeActs(int parts) {
        HireScopes x = Due.house(parts);
        filler(x);
        x.act();
        x.act();
        return x;
    }

    private static Lines oneOp(HireScopes x, int stepsBefore, int[] op) {
        Lines lines = steps(x, 1, stepsBefore).add(op[0], op[1], op[2]);
        return op[0] >= 11 ? lines.ends(2) : lines.end();
    }

    /** 160 STEPS may be: each OP is done as the 160th. */
    private static void eachOpAsTheLastStep() {
        for (int[] op : OPS) {
            HireScopes x = houseOfThreeActs(2);
            oneOp(x, 159, op);
            String name = "OP " + op[0] + " as the 160th STEP";
            boolean makesLoan = op[0] <= 2 || op[0] == 5;
            int failed = op[0] == 8 ? 1 : 0;
            Due.due(name, failed, x.run(1, 3));
            Due.ran(x, name, failed, 160, failed, makesLoan ? 2 : 1, op[0] == 7 || op[0] == 12 ? 3 : 2, 0, failed - 1);
            Due.log(x, name, 0, 0, op[0] == 4 ? 0 : 1, 0);
            Due.due(name + ": LEAKS", op[0] == 2 ? 1 : 0, x.leaks());
        }
    }

    /** "the RUN ends at the 161st STEP that would be": whatever OP it is, it is not done and is no STEP. */
    private static void eachOpAsOneStepTooMany() {
        for (int[] op : OPS) {
            HireScopes x = houseOfThreeActs(2);
            oneOp(x, 160, op);
            String name = "OP " + op[0] + " as the 161st STEP";
            Due.due(name, 2, x.run(1, 3));
            Due.ran(x, name, 2, 160, 0, 1, 2, 0, NOTHING);
            Due.log(x, name, 0, 0, 2, 0);
            Due.log(x, name, 1, NOTHING);
            Due.due(name + ": LEAKS", 0, x.leaks());
            Due.due(name + ": STATE of PART 1", 0, x.state(1));
            Due.due(name + ": failure(0, 0)", UNKNOWN, x.failure(0, 0));
        }
    }

    /** "each LINE but END": behind the 160th STEP BLOCKS and ACTS may end, and their LOANS come back by that. */
    private static void endIsNoStep() {
        HireScopes x = houseOfThreeActs(2);
        steps(x, 1, 157).scope().tries().borrow(1, 1).guard(0).fail(0).end().end().end();
        Due.due("run", 0, x.run(1, 0));
        Due.ran(x, "ENDS behind the 160th STEP", 0, 160, 0, 2, 3, 0, NOTHING);
        Due.log(x, "by END", 1, 1, 1, 0);
        Due.log(x, "by the ACT's end", 0, 0, 1, 0);
    }

    /** "each turn of a LOOP behind the first": the second turn as the 160th and the 161st STEP. */
    private static void aTurnAsTheLastStep() {
        for (int before = 158; before <= 159; before++) {
            HireScopes x = houseOfThreeActs(1);
            steps(x, 1, before).loop(2).ends(2);
            String name = "a turn as STEP " + (before + 2);
            Due.due(name, before == 158 ? 0 : 2, x.run(1, 0));
            Due.ran(x, name, before == 158 ? 0 : 2, 160, 0, 1, 2, 0, NOTHING);
            Due.log(x, name, 0, 0, before == 158 ? 1 : 2, 0);
        }
    }

    /** "GUARD .. where their WAYS begin": as the 160th and the 161st STEP. */
    private static void aGuardAsTheLastStep() {
        for (int before = 157; before <= 158; before++) {
            HireScopes x = houseOfThreeActs(1);
            steps(x, 1, before).tries().fail(9).guard(10).guard(9).end().end();
            String name = "GUARD as STEP " + (before + 3);
            Due.due(name, before == 157 ? 0 : 2, x.run(1, 0));
            Due.ran(x, name, before == 157 ? 0 : 2, 160, 1, 1, 2, 0, NOTHING);
            Due.failure(x, name, 0, 9, 1, before - 143 + 4, NOTHING, NOTHING, NOTHING);
        }
    }

    /** "FINISH where their WAYS begin", on each way out of a BODY; what was on its way is not LET GO by SPENT. */
    private static void finishBehindABody() {
        for (int way : WAYS) {
            int own = way == END ? 0 : 1;
            int failed = way == FAIL ? 1 : 0;
            for (int more = 0; more <= 1; more++) {
                HireScopes x = houseOfThreeActs(2);
                Lines lines = steps(x, 1, 158 - own + more).tries();
                if (own == 1) {
                    lines.add(way, 9, 0);
                }
                lines.finish().ends(2);
                String name = "FINISH as STEP " + (160 + more) + " behind a BODY by " + way;
                int end = more == 1 ? 2 : failed;
                Due.due(name, end, x.run(1, 0));
                Due.ran(x, name, end, 160, failed, 1, 2, 0, end == 1 ? 0 : NOTHING);
                Due.log(x, name, 0, 0, more + 1, 0);
            }
        }
    }

    /** The same on each way out of a WAY; a FAILURE that left it has its CAUSE. */
    private static void finishBehindAWay() {
        for (int way : WAYS) {
            int own = way == END ? 0 : 1;
            int failed = way == FAIL ? 1 : 0;
            for (int more = 0; more <= 1; more++) {
                HireScopes x = houseOfThreeActs(2);
                Lines lines = steps(x, 1, 156 - own + more).tries().fail(7).guard(7);
                if (own == 1) {
                    lines.add(way, 9, 0);
                }
                lines.finish().ends(2);
                String name = "FINISH as STEP " + (160 + more) + " behind a WAY by " + way;
                int end = more == 1 ? 2 : failed;
                Due.due(name, end, x.run(1, 0));
                Due.ran(x, name, end, 160, 1 + failed, 1, 2, 0, end == 1 ? 1 : NOTHING);
                if (more == 0 && way == FAIL) {
                    Due.due(name + ": its CAUSE", 0, x.failure(1, 4));
                }
            }
        }
    }

    /** "(LOOP with 0: none)": the LOOP's LINE is a STEP, a turn there is none. */
    private static void turnsOfALoopOfNone() {
        HireScopes x = houseOfThreeActs(1);
        steps(x, 1, 158).loop(0).uses(5, 0).end().loop(0).fail(0).end().end();
        Due.due("run", 0, x.run(1, 0));
        Due.ran(x, "two LOOPS of 0", 0, 160, 0, 1, 2, 0, NOTHING);
    }

    /** An ACT that has done so many FAILURES, all guarded; behind it SLOT 0 has PART 0, and SLOT 1 a LOAN that is over. */
    private static Lines failures(HireScopes x, int count) {
        return Lines.of(x).borrow(1, 1).back(1).borrow(0, 0).loop(count).tries().fail(9).guard(9).end().end();
    }

    /** "the 17th FAILURE that would be": by each OP that FAILS, as the 16th, and as the 17th, that no GUARD has. */
    private static void sixteenAndSeventeen() {
        int[][] ops = {{0, 3, 1}, {0, 3, 59}, {1, 3, 39}, {2, 3, 0}, {3, 7, 0}, {3, 1, 0}, {4, 1, 0}, {5, 7, 0}, {6, 1, 0},
            {6, 0, 1}, {7, 11, 0}, {8, 0, 0}, {8, 11, 0}};
        int[] kinds = {2, 2, 7, 2, 3, 3, 3, 3, 3, 4, 4, 0, 11};
        for (int i = 0; i < ops.length; i++) {
            for (int before = 15; before <= 16; before++) {
                HireScopes x = Due.house(3);
                int[] op = ops[i];
                int n = failures(x, before).tries().add(op[0], op[1], op[2]).guard(0).hold(7, 2).finish().end().act;
                String name = "OP " + op[0] + " " + op[1] + " " + op[2] + " as FAILURE " + (before + 1);
                Due.due(name, before == 15 ? 0 : 2, x.run(n, 0));
                Due.ran(x, name, before == 15 ? 0 : 2, 3 + 4 * before + (before == 15 ? 5 : 2), 16, before == 15 ? 3 : 2, 1,
                        0, NOTHING);
                Due.due(name + ": failure(15, 0)", before == 15 ? kinds[i] : 9, x.failure(15, 0));
                Due.due(name + ": failure(16, 0)", UNKNOWN, x.failure(16, 0));
                Due.due(name + ": LEAKS", before == 15 ? 1 : 0, x.leaks());
                Due.log(x, name, 0, 0, before == 15 ? 1 : 2, 0);
            }
        }
    }

    /** "the 17th FAILURE that would be": DEEP, that a CALL in the tenth ACT FAILS by. */
    private static void deepAsTheSeventeenth() {
        HireScopes x = Due.house(2);
        failures(x, 16).call(1, 0);
        for (int n = 1; n < 10; n++) {
            Lines.of(x).call(n + 1, 0);
        }
        Due.due("DEEP as the 17th", 2, x.run(0, 0));
        Due.ran(x, "DEEP as the 17th", 2, 77, 16, 2, 10, 0, NOTHING);
        Due.due("DEEP as the 17th, but within 8", 1, x.run(1, 0));
        Due.ran(x, "behind it 16 may be again", 1, 9, 1, 0, 9, 0, 0);
    }

    /** "(a PART that would be TORN by that is LOST)": by a SCOPE's end on each way but a FAILURE, as the 16th and 17th. */
    private static void tornByAScopesEndAsTheSeventeenth() {
        int[] ways = {END, RETURN, BREAK};
        for (int way : ways) {
            for (int before = 15; before <= 16; before++) {
                HireScopes x = Due.house(3);
                x.plan(2, 1, 1);
                Lines lines = failures(x, before).loop(1).tries().scope().borrow(2, 2);
                if (way != END) {
                    lines.add(way, 0, 0);
                }
                int n = lines.end().guard(6).use(0).end().end().act;
                String name = "a SCOPE's end by " + way + " as FAILURE " + (before + 1);
                Due.due(name, before == 15 ? 0 : 2, x.run(n, 5));
                Due.ran(x, name, before == 15 ? 0 : 2, 7 + 4 * before + (way == END ? 0 : 1) + (before == 15 ? 2 : 0), 16,
                        3, 2, 0, NOTHING);
                Due.due(name + ": STATE", 3, x.state(2));
                Due.due(name + ": CHARGED", 10, x.cents(5, 1));
                Due.due(name + ": PLANS", 0, x.plans(false));
                Due.log(x, name, 1, 2, 1, 1);
                Due.log(x, name, 0, 0, before == 15 ? 1 : 2, 0);
                Due.due(name + ": failure(15, 0)", before == 15 ? 6 : 9, x.failure(15, 0));
            }
        }
    }

    /** The 16th on its way, the 17th by the SCOPE's end that it leaves: nothing is SUPPRESSED UNDER it then. */
    private static void tornUnderTheSixteenth() {
        HireScopes x = Due.house(4);
        x.plan(2, 1, 1);
        x.plan(3, 1, 1);
        int n = failures(x, 14).scope().borrow(2, 2).borrow(3, 3).fail(7).end().act;
        Due.due("15, 16 and 17", 2, x.run(n, 0));
        Due.ran(x, "15, 16 and 17", 2, 63, 16, 4, 2, 0, NOTHING);
        Due.failure(x, "the 15th", 14, 7, n, 12, NOTHING, NOTHING, NOTHING);
        Due.failure(x, "the 16th", 15, 6, n, 9, 3, NOTHING, 14);
        Due.log(x, "the 16th", 2, 3, 1, 1);
        Due.log(x, "the 17th that would be", 1, 2, 1, 1);
        Due.log(x, "the rest", 0, 0, 2, 0);
    }

    /** By the own SCOPE's end of the RUN's ACT. */
    private static void tornByTheActsOwnEnd() {
        for (int before = 15; before <= 16; before++) {
            HireScopes x = Due.house(2);
            x.plan(0, 1, 1);
            int n = failures(x, before).act;
            String name = "the ACT's own end as FAILURE " + (before + 1);
            Due.due(name, before == 15 ? 1 : 2, x.run(n, 0));
            Due.ran(x, name, before == 15 ? 1 : 2, 3 + 4 * before, 16, 2, 1, 0, before == 15 ? 15 : NOTHING);
            Due.log(x, name, 0, 0, 1, 1);
            Due.due(name + ": STATE", 3, x.state(0));
        }
    }

    /** By the end of an ACT that was called: the ACTS around are SPENT. */
    private static void tornByACalledActsEnd() {
        HireScopes x = Due.house(3);
        x.plan(2, 1, 1);
        int n = failures(x, 16).tries().call(1, 0).guard(0).hold(7, 1).finish().hold(7, 1).end().act;
        Lines.of(x).borrow(0, 2);
        Due.due("a called ACT's end", 2, x.run(n, 0));
        Due.ran(x, "a called ACT's end", 2, 70, 16, 3, 2, 0, NOTHING);
        Due.log(x, "a called ACT's end", 1, 2, 1, 1);
        Due.log(x, "a called ACT's end", 0, 0, 2, 0);
        Due.due("no WAY is done", 0, x.leaks());
    }

    /** What the SCOPE has yet is given back SPENT: what its PLANS tell of is LOST, and no FAILURE. */
    private static void whatIsLeftOfThatScope() {
        HireScopes x = Due.house(6);
        x.plan(4, 1, 1);
        x.plan(2, 1, 1);
        int n = failures(x, 16).scope().borrow(2, 2).borrow(3, 3).borrow(4, 4).borrow(5, 5).end().act;
        Due.due("run", 2, x.run(n, 2));
        Due.ran(x, "what is left", 2, 72, 16, 6, 2, 0, NOTHING);
        int[] parts = {5, 4, 3, 2, 0};
        int[] hows = {1, 1, 2, 2, 2};
        for (int i = 0; i < 5; i++) {
            Due.log(x, "what is left", 4 - i, parts[i], hows[i], parts[i] == 4 || parts[i] == 2 ? 1 : 0);
        }
        Due.due("CHARGED", 20, x.cents(2, 1));
        Due.due("PLANS", 0, x.plans(false));
    }

    /** A USE that a PLAN tells to FAIL as the 17th: the PLAN was met, so it is gone. So is that of a BACK. */
    private static void plannedAsTheSeventeenth() {
        for (int what = 0; what <= 1; what++) {
            for (int before = 15; before <= 16; before++) {
                HireScopes x = Due.house(2);
                x.plan(0, 1, what);
                int n = failures(x, before).tries().add(3 + what, 0, 0).guard(5 + what).end().act;
                String name = "OP " + (3 + what) + " as FAILURE " + (before + 1);
                Due.due(name, before == 15 ? 0 : 2, x.run(n, 0));
                Due.ran(x, name, before == 15 ? 0 : 2, 5 + 4 * before + (before == 15 ? 1 : 0), 16, 2, 1, 0, NOTHING);
                Due.due(name + ": PLANS", 0, x.plans(false));
                Due.due(name + ": STATE", 2 + what, x.state(0));
                Due.log(x, name, 0, 0, what == 1 ? 0 : before == 15 ? 1 : 2, what);
            }
        }
    }

    /** "no WAY is done any more": what was on its way is neither SUPPRESSED nor LET GO, in whatever TRY. */
    private static void suppressedBySpentNone() {
        HireScopes x = Due.house(2);
        int n = failures(x, 15).tries().tries().fail(7).finish().fail(8).end().guard(0).hold(7, 1).finish().hold(7, 1).end()
                .act;
        Due.due("the 17th in a LAST WAY", 2, x.run(n, 0));
        Due.ran(x, "the 17th in a LAST WAY", 2, 68, 16, 2, 1, 0, NOTHING);
        Due.failure(x, "the 16th", 15, 7, n, 11, NOTHING, NOTHING, NOTHING);
        Due.due("no WAY", 0, x.leaks());
    }

    /** The LINE that is the 161st STEP does not FAIL, though it would be the 17th FAILURE. */
    private static void stepsBeforeFailures() {
        HireScopes x = Due.house(2);
        x.plan(0, 1, 0);
        int n = failures(x, 16).loop(18).scopes(4).ends(5).scopes(3).ends(3).use(0).act;
        Due.due("run", 2, x.run(n, 0));
        Due.ran(x, "the USE is not done", 2, 160, 16, 2, 76, 0, NOTHING);
        Due.due("its PLAN is not met", 1, x.plans(false));
    }

    /** 160 STEPS and 16 FAILURES in one RUN that ends by END. */
    private static void mostStepsAndMostFailures() {
        HireScopes x = new HireScopes();
        int n = Lines.of(x).loop(16).tries().fail(9).guard(9).scopes(6).ends(6).end().end().act;
        Due.due("run", 0, x.run(n, 0));
        Due.ran(x, "the most of both", 0, 160, 16, 0, 97, 0, NOTHING);
    }

    /** 157 LOANS of one PART in 160 STEPS, each a SUB-LOAN of the one before. */
    private static void mostLoans() {
        HireScopes x = Due.house(1);
        Lines.of(x).borrow(0, 0).times(38, 5, 0, 0).call(1, 0);
        Lines.of(x).times(39, 5, 0, 0).call(2, 0);
        Lines.of(x).times(39, 5, 0, 0).call(3, 0);
        Lines.of(x).times(40, 5, 0, 0);
        Due.due("run", 0, x.run(0, 0));
        Due.ran(x, "157 LOANS", 0, 160, 0, 157, 4, 0, NOTHING);
        Due.log(x, "157 LOANS", 0, 0, 1, 0);
        Due.log(x, "157 LOANS", 1, NOTHING);
        x.clean(60);
        Lines.anew(x, 3).times(37, 5, 0, 0).pass(0, 3).add(4, 1, 0);
        Due.due("OVER", 1, x.run(0, 0));
        Due.ran(x, "154 LOANS", 1, 159, 1, 154, 4, 0, 0);
        Due.due("STATE", 2, x.state(0));
        Due.log(x, "154 LOANS", 1, 0, 1, 0);
        Due.log(x, "154 LOANS", 2, NOTHING);
    }

    /** "what is OPEN of all SCOPES is given back then, from the innermost", each SCOPE's last one first. */
    private static void fromTheInnermost() {
        HireScopes x = Due.house(7);
        Lines.of(x).borrow(0, 0).borrow(1, 1).scope().borrow(2, 2).borrow(3, 3).pass(3, 1).call(1, 2).end();
        Lines.of(x).borrow(1, 4).scope().borrow(2, 5).borrow(3, 6).pass(0, 0).loop(20).loop(20).ends(3);
        Due.due("run", 2, x.run(0, 6));
        Due.ran(x, "from the innermost", 2, 160, 0, 7, 4, 0, NOTHING);
        int[] parts = {2, 6, 5, 4, 3, 1, 0};
        Due.cleaning(x, "from the innermost", parts);
        for (int i = 0; i < 7; i++) {
            Due.log(x, "from the innermost", 6 - i, parts[i], 2, 0);
        }
    }

    /** "(without FAILURES, TORN PARTS are LOST)" */
    private static void tornBySpentIsLost() {
        HireScopes x = Due.house(3);
        x.plan(0, 1, 1);
        x.plan(0, 2, 1);
        x.plan(2, 1, 1);
        int n = Lines.of(x).borrow(0, 0).borrow(1, 1).borrow(2, 2).loop(20).loop(20).ends(2).act;
        Due.due("run", 2, x.run(n, 4));
        Due.ran(x, "TORN by SPENT", 2, 160, 0, 3, 1, 0, NOTHING);
        Due.due("failure(0, 0)", UNKNOWN, x.failure(0, 0));
        for (int p = 0; p < 3; p++) {
            Due.due("STATE of " + p, p == 1 ? 2 : 3, x.state(p));
            Due.log(x, "TORN by SPENT", p, p, 2, p == 1 ? 0 : 1);
        }
        Due.due("CHARGED", 20, x.cents(4, 1));
        Due.due("PLANS", 1, x.plans(false));
    }

    /** LONG LOANS belong to no SCOPE: they stay OPEN; their SUB-LOANS are over. */
    private static void longLoansAndTheirSubLoans() {
        HireScopes x = Due.house(2);
        x.plan(0, 1, 1);
        int n = Lines.of(x).hold(0, 0).lend(0, 1).borrow(2, 1).lend(2, 2).loop(20).loop(20).ends(2).act;
        Due.due("run", 2, x.run(n, 1));
        Due.ran(x, "a LONG LOAN", 2, 160, 0, 4, 1, 0, NOTHING);
        Due.due("LEAKS", 1, x.leaks());
        Due.due("STATE", 1, x.state(0));
        Due.due("DEPOSIT", 10, x.cents(1, 0));
        Due.log(x, "the other alone", 0, 1, 2, 0);
        Due.log(x, "the other alone", 1, NOTHING);
        Due.due("giveBack(0)", 0, x.giveBack(0));
    }

    /** STEPS, FAILURES, LOANS and SCOPES are counted anew in each RUN. */
    private static void nextRunBeginsAnew() {
        HireScopes x = Due.house(2);
        int n = failures(x, 17).act;
        Due.due("17", 2, x.run(n, 0));
        Lines.anew(x, n).use(3);
        Due.due("the next", 1, x.run(n, 0));
        Due.ran(x, "the next", 1, 1, 1, 0, 1, 0, 0);
        Due.failure(x, "the next", 0, 3, n, 0, NOTHING, NOTHING, NOTHING);
        Due.due("failure(1, 0)", UNKNOWN, x.failure(1, 0));
        for (int i = 0; i < 3; i++) {
            Lines.anew(x, n).loop(20).scopes(7).ends(8);
            Due.due("160 STEPS", 0, x.run(n, 0));
            Due.ran(x, "160 STEPS", 0, 160, 0, 0, 141, 0, NOTHING);
            Lines.anew(x, n).loop(20).scopes(7).ends(8).returns();
            Due.due("and one more", 2, x.run(n, 0));
        }
    }

    /** What one RUN left SPENT, its BLOCKS and ACTS under way, is nothing to the next: 90 BLOCKS may be again. */
    private static void manySpentRuns() {
        HireScopes x = Due.house(1);
        for (int n = 0; n < 9; n++) {
            Lines.of(x).scopes(8).call(n + 1, 0).ends(8);
        }
        Lines.of(x).borrow(0, 0).scopes(6).loop(20).loop(20).ends(8);
        for (int i = 0; i < 40; i++) {
            Due.due("RUN " + i, 2, x.run(0, 0));
            x.clean(60);
        }
        Due.ran(x, "the 40th", 2, 160, 0, 1, 88, 0, NOTHING);
        Lines.anew(x, 9).scopes(7).borrow(0, 0).pass(0, 9).ends(7);
        Due.due("the 41st", 0, x.run(0, 0));
        Due.ran(x, "the 41st", 0, 90, 0, 1, 89, 0, NOTHING);
        Due.log(x, "the 41st", 0, 0, 1, 0);
    }
}
