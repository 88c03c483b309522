/** ==== 3 of the document, of a SCOPE's end and what a RUN ends by: the edges, each in a test of its own. */
public final class ScopeEdgesTest {
    private static final int NOTHING = HireScopes.NOTHING;

    // The ways out that a LINE begins, and END, that no LINE but the BLOCK's own does.
    private static final int END = 16, RETURN = 9, BREAK = 10, FAIL = 8;
    private static final int[] WAYS = {END, RETURN, BREAK, FAIL};

    public static void main(String[] args) {
        emptyScope();
        oneLoanOnEachWay();
        lastOneFirst();
        actsOwnScopeOnEachWay();
        calledActsScopeOnEachWay();
        innermostFirst();
        whatIsOverIsNotGivenBackAgain();
        passedBehindThoseThere();
        subLoanByItsLoansScope();
        longLoanBelongsToNone();
        oneTorn();
        twoAndMoreTorn();
        tornOfTheActsOwn();
        tornInACalledAct();
        tornOnOneWayThroughScopes();
        allWhateverComesOfOne();
        subLoanIsNotTorn();
        endsByWhat();
        scopesCounted();
        Due.end();
    }

    /** The LINE by which a way is begun; END needs none. */
    private static Lines way(Lines lines, int way) {
        return way == END ? lines : lines.add(way, 9, 0);
    }

    private static int failed(int way) {
        return way == FAIL ? 1 : 0;
    }

    /** A SCOPE without LOANS ends on each way, and is counted. */
    private static void emptyScope() {
        for (int way : WAYS) {
            HireScopes x = new HireScopes();
            int n = way(Lines.of(x).loop(1).scope(), way).end().end().act;
            Due.due("empty, by " + way, failed(way), x.run(n, 0));
            Due.ran(x, "empty, by " + way, failed(way), way == END ? 2 : 3, failed(way), 0, 2, 0, failed(way) - 1);
            Due.log(x, "empty, by " + way, 0, NOTHING, NOTHING, NOTHING);
        }
    }

    /** "A SCOPE ENDS when its BLOCK .. is left, on each way: by its END, by RETURN, BREAK, a FAILURE." */
    private static void oneLoanOnEachWay() {
        for (int way : WAYS) {
            HireScopes x = Due.house(1);
            int n = way(Lines.of(x).loop(1).scope().borrow(0, 0), way).end().end().act;
            Due.due("one, by " + way, failed(way), x.run(n, 0));
            Due.ran(x, "one, by " + way, failed(way), way == END ? 3 : 4, failed(way), 1, 2);
            Due.log(x, "one, by " + way, 0, 0, 1, 0);
            Due.log(x, "one, by " + way, 1, NOTHING);
            Due.due("STATE", 2, x.state(0));
        }
    }

    /** "Its OPEN LOANS are given back, the last one first, all of them" */
    private static void lastOneFirst() {
        for (int way : WAYS) {
            HireScopes x = Due.house(4);
            int n = way(Lines.of(x).borrow(0, 3).loop(1).scope().borrow(0, 1).borrow(0, 0).borrow(0, 2), way).end().end()
                    .act;
            Due.due("three, by " + way, failed(way), x.run(n, 0));
            Due.cleaning(x, "three, by " + way, 2, 0, 1, 3);
            int[] parts = {3, 1, 0, 2};
            for (int i = 0; i < 4; i++) {
                Due.log(x, "three, by " + way, i, parts[i], 1, 0);
            }
        }
    }

    /** "a SCOPE of its own around it": a RUN's ACT by END, RETURN, a FAILURE. */
    private static void actsOwnScopeOnEachWay() {
        int[] ways = {END, RETURN, FAIL};
        for (int way : ways) {
            HireScopes x = Due.house(2);
            int n = way(Lines.of(x).borrow(0, 0).borrow(1, 1), way).act;
            Due.due("the ACT's own, by " + way, failed(way), x.run(n, 0));
            Due.ran(x, "the ACT's own, by " + way, failed(way), way == END ? 2 : 3, failed(way), 2, 1, 0,
                    failed(way) - 1);
            Due.cleaning(x, "the ACT's own, by " + way, 1, 0);
            Due.log(x, "the ACT's own, by " + way, 0, 0, 1, 0);
        }
    }

    /** "(also each CALL)": what the ACT that was called borrowed is given back before what is behind the CALL. */
    private static void calledActsScopeOnEachWay() {
        int[] ways = {END, RETURN, FAIL};
        for (int way : ways) {
            HireScopes x = Due.house(3);
            int n = Lines.of(x).borrow(0, 0).tries().call(1, 0).guard(9).end().borrow(1, 1).act;
            way(Lines.of(x).borrow(1, 2), way);
            Due.due("a CALL by " + way, 0, x.run(n, 0));
            Due.ran(x, "a CALL by " + way, 0, way == END ? 5 : way == RETURN ? 6 : 7, failed(way), 3, 2, 0, NOTHING);
            Due.cleaning(x, "a CALL by " + way, 2, 1, 0);
        }
    }

    /** SCOPES within SCOPES, and within a CALL, end from the innermost on, each with its own LOANS. */
    private static void innermostFirst() {
        for (int way : WAYS) {
            HireScopes x = Due.house(8);
            int n = way(Lines.of(x).borrow(0, 0).loop(1).scope().borrow(0, 1).scope().borrow(0, 2).scope().borrow(0, 3)
                    .borrow(0, 4), way).end().end().end().end().act;
            Due.due("SCOPES within SCOPES, by " + way, failed(way), x.run(n, 0));
            Due.ran(x, "SCOPES within SCOPES, by " + way, failed(way), way == END ? 9 : 10, failed(way), 5, 4);
            Due.cleaning(x, "SCOPES within SCOPES, by " + way, 4, 3, 2, 1, 0);
        }
    }

    /** "Its OPEN LOANS": one that is over by BACK is not given back once more. */
    private static void whatIsOverIsNotGivenBackAgain() {
        HireScopes x = Due.house(3);
        x.plan(1, 2, 1);
        int n = Lines.of(x).scope().borrow(0, 0).borrow(1, 1).borrow(2, 2).back(1).end().act;
        Due.due("run", 0, x.run(n, 0));
        Due.cleaning(x, "BACK of the one between", 1, 2, 0);
        Due.log(x, "by BACK", 2, 1, 0, 0);
        Due.log(x, "no more", 3, NOTHING);
        Due.due("its PLAN is there", 1, x.plans(false));
        x.clean(60);
        Lines.anew(x, n).scope().borrow(0, 0).back(0).end();
        Due.due("run", 0, x.run(n, 0));
        Due.cleaning(x, "BACK of all", 0);
    }

    /** "by PASS one goes to another SCOPE, behind those there (also to its own)" */
    private static void passedBehindThoseThere() {
        HireScopes x = Due.house(4);
        int n = Lines.of(x).borrow(0, 0).borrow(1, 1).borrow(2, 2).pass(1, 0).act;
        Due.due("to its own", 0, x.run(n, 0));
        Due.cleaning(x, "the middle one to its own", 1, 2, 0);
        x.clean(60);
        Lines.anew(x, n).borrow(0, 0).borrow(1, 1).borrow(2, 2).pass(0, 0).pass(2, 0).pass(2, 0);
        Due.due("to its own", 0, x.run(n, 0));
        Due.cleaning(x, "the first and the last to their own", 2, 0, 1);
        x.clean(60);
        Lines.anew(x, n).borrow(0, 0).borrow(1, 1).scope().borrow(2, 2).pass(2, 1).pass(0, 1).borrow(3, 3).end();
        Due.due("outward", 0, x.run(n, 0));
        Due.cleaning(x, "outward", 3, 0, 2, 1);
        x.clean(60);
        Lines.anew(x, n).borrow(0, 0).borrow(1, 1).scope().borrow(2, 2).pass(0, 0).end().borrow(3, 3);
        Due.due("inward", 0, x.run(n, 0));
        Due.cleaning(x, "inward", 0, 2, 3, 1);
        x.clean(60);
        // there and back: behind those that came meanwhile
        Lines.anew(x, n).borrow(0, 0).scope().borrow(1, 1).pass(1, 1).borrow(2, 2).pass(1, 0).end().borrow(3, 3);
        Due.due("there and back", 0, x.run(n, 0));
        Due.cleaning(x, "there and back", 1, 2, 3, 0);
    }

    /** A SUB-LOAN belongs to THE INNERMOST as it is made; its LOAN's SCOPE may end before. */
    private static void subLoanByItsLoansScope() {
        HireScopes x = Due.house(2);
        int n = Lines.of(x).scope().borrow(0, 0).lend(0, 1).pass(1, 1).borrow(2, 1).end().use(1).act;
        Due.due("run", 1, x.run(n, 0));
        Due.failure(x, "it went with its LOAN", 0, 3, n, 6, 0, NOTHING, NOTHING);
        Due.cleaning(x, "one giving back of each", 1, 0);
        x.clean(60);
        // LENT in a CALL, it is over behind it; the LOAN is free
        Lines.anew(x, n).borrow(0, 0).call(1, 0).use(0);
        Lines.of(x).lend(0, 1).use(1);
        Due.due("a SUB-LOAN of a CALL", 0, x.run(n, 0));
        Due.cleaning(x, "a SUB-LOAN of a CALL", 0);
    }

    /** A LONG LOAN is OPEN behind each SCOPE's end, on each way. */
    private static void longLoanBelongsToNone() {
        for (int way : WAYS) {
            HireScopes x = Due.house(1);
            int n = way(Lines.of(x).loop(1).scope().hold(0, 0).lend(0, 1), way).end().end().act;
            Due.due("LONG, by " + way, failed(way), x.run(n, 0));
            Due.due("LEAKS", 1, x.leaks());
            Due.due("STATE", 1, x.state(0));
            Due.log(x, "LONG, by " + way, 0, NOTHING);
        }
    }

    /**
     * "each that is TORN FAILS: the first such FAILURE is SUPPRESSED UNDER the FAILURE that is on its way, or, if there
     * is none, that is from then on its way (in place of END, RETURN, BREAK)"
     */
    private static void oneTorn() {
        for (int way : WAYS) {
            HireScopes x = Due.house(1);
            x.plan(0, 1, 1);
            int n = way(Lines.of(x).loop(2).scope().borrow(0, 0), way).end().hold(0, 0).end().hold(0, 0).act;
            String name = "one TORN by " + way;
            Due.due(name, 1, x.run(n, 0));
            Due.ran(x, name, 1, way == END ? 3 : 4, 1 + failed(way), 1, 2, 0, 0);
            Due.failure(x, name, failed(way), 6, n, 1, 0, NOTHING, failed(way) - 1);
            Due.failure(x, name, 0, way == FAIL ? 9 : 6, n, way == FAIL ? 3 : 1, way == FAIL ? NOTHING : 0, NOTHING,
                    NOTHING);
            Due.log(x, name, 0, 0, 1, 1);
            Due.due("no LINE is done behind it", 0, x.leaks());
        }
    }

    /** "each further one is SUPPRESSED UNDER that one which is on its way" */
    private static void twoAndMoreTorn() {
        for (int way : WAYS) {
            HireScopes x = Due.house(4);
            x.plan(0, 1, 1);
            x.plan(1, 1, 1);
            x.plan(3, 1, 1);
            int n = way(Lines.of(x).loop(2).scope().borrow(0, 0).borrow(0, 1).borrow(0, 2).borrow(0, 3), way).end().end()
                    .act;
            String name = "three TORN by " + way;
            int first = failed(way);
            Due.due(name, 1, x.run(n, 0));
            Due.ran(x, name, 1, way == END ? 6 : 7, 3 + first, 4, 2, 0, 0);
            Due.failure(x, name, first, 6, n, 1, 3, NOTHING, first - 1);
            Due.failure(x, name, first + 1, 6, n, 1, 1, NOTHING, 0);
            Due.failure(x, name, first + 2, 6, n, 1, 0, NOTHING, 0);
            Due.cleaning(x, name, 2);
        }
    }

    /** "LINE (by a SCOPE's end: that of SCOPE, NOTHING for an ACT's own)" */
    private static void tornOfTheActsOwn() {
        int[] ways = {END, RETURN, FAIL};
        for (int way : ways) {
            HireScopes x = Due.house(2);
            x.plan(0, 1, 1);
            x.plan(1, 1, 1);
            Lines.of(x);
            int n = way(Lines.of(x).scope().end().borrow(0, 0).borrow(1, 1), way).act;
            String name = "the ACT's own TORN by " + way;
            int first = failed(way);
            Due.due(name, 1, x.run(n, 0));
            Due.ran(x, name, 1, way == END ? 3 : 4, 2 + first, 2, 2, 0, 0);
            Due.failure(x, name, first, 6, n, NOTHING, 1, NOTHING, first - 1);
            Due.failure(x, name, first + 1, 6, n, NOTHING, 0, NOTHING, 0);
        }
    }

    /** The FAILURE of a called ACT's end has its number; a GUARD around the CALL may have it, in place of its END. */
    private static void tornInACalledAct() {
        int[] ways = {END, RETURN};
        for (int way : ways) {
            HireScopes x = Due.house(1);
            x.plan(0, 1, 1);
            int n = Lines.of(x).tries().call(1, 0).hold(0, 0).guard(6).scope().end().end().act;
            int called = way(Lines.of(x).borrow(0, 0), way).act;
            String name = "a called ACT's end by " + way;
            Due.due(name, 0, x.run(n, 0));
            Due.ran(x, name, 0, way == END ? 5 : 6, 1, 1, 3, 0, NOTHING);
            Due.failure(x, name, 0, 6, called, NOTHING, 0, NOTHING, NOTHING);
        }
    }

    /** The first that is TORN is on its way from then on: those of the SCOPES around are SUPPRESSED UNDER it. */
    private static void tornOnOneWayThroughScopes() {
        for (int way : WAYS) {
            HireScopes x = Due.house(3);
            x.plan(0, 1, 1);
            x.plan(1, 1, 1);
            x.plan(2, 1, 1);
            int n = way(Lines.of(x).borrow(0, 0).loop(1).scope().borrow(0, 1).scope().borrow(0, 2), way).end().end().end()
                    .act;
            String name = "through SCOPES by " + way;
            int first = failed(way);
            Due.due(name, 1, x.run(n, 0));
            Due.ran(x, name, 1, way == END ? 6 : 7, 3 + first, 3, 3, 0, 0);
            Due.failure(x, name, first, 6, n, 4, 2, NOTHING, first - 1);
            Due.failure(x, name, first + 1, 6, n, 2, 1, NOTHING, 0);
            Due.failure(x, name, first + 2, 6, n, NOTHING, 0, NOTHING, 0);
        }
    }

    /** "all of them, whatever comes of one": what stands before a TORN one is given back, too. */
    private static void allWhateverComesOfOne() {
        for (int torn = 0; torn < 3; torn++) {
            HireScopes x = Due.house(3);
            x.plan(torn, 1, 1);
            int n = Lines.of(x).scope().borrow(0, 0).borrow(0, 1).borrow(0, 2).end().act;
            Due.due("PART " + torn + " is TORN", 1, x.run(n, 0));
            for (int p = 0; p < 3; p++) {
                Due.due("STATE of " + p, p == torn ? 3 : 2, x.state(p));
                Due.log(x, "PART " + torn + " is TORN", p, p, 1, p == torn ? 1 : 0);
            }
            Due.ran(x, "PART " + torn + " is TORN", 1, 4, 1, 3, 2, 0, 0);
        }
    }

    /** "A FAILURE of a SUB-LOAN's there is none." */
    private static void subLoanIsNotTorn() {
        HireScopes x = Due.house(1);
        x.plan(0, 1, 1);
        int n = Lines.of(x).borrow(0, 0).scope().lend(0, 1).end().lend(0, 1).back(1).lend(0, 1).act;
        Due.due("run", 1, x.run(n, 0));
        Due.ran(x, "the LOAN's alone", 1, 6, 1, 4, 2, 0, 0);
        Due.failure(x, "the LOAN's alone", 0, 6, n, NOTHING, 0, NOTHING, NOTHING);
        Due.log(x, "the LOAN's alone", 0, 0, 1, 1);
        Due.log(x, "the LOAN's alone", 1, NOTHING);
    }

    /** "What the RUN ends by: 0 END, RETURN; 1 a FAILURE; 2 SPENT."; the FAILURE's number, NOTHING of none. */
    private static void endsByWhat() {
        HireScopes x = new HireScopes();
        int n = Lines.of(x).act;
        Due.due("END", 0, x.run(n, 0));
        Due.ran(x, "END", 0, 0, 0, 0, 1, 0, NOTHING);
        Lines.anew(x, n).tries().fail(0).guard(0).end().tries().fail(1).guard(0).end().fail(2);
        Due.due("a FAILURE", 1, x.run(n, 0));
        Due.ran(x, "a FAILURE", 1, 7, 3, 0, 1, 0, 2);
        Lines.anew(x, n).tries().fail(0).guard(0).returns().end();
        Due.due("RETURN", 0, x.run(n, 0));
        Due.ran(x, "RETURN", 0, 4, 1, 0, 1, 0, NOTHING);
        Lines.anew(x, n).tries().fail(0).finish().loop(20).loop(20).end().end().end();
        Due.due("SPENT", 2, x.run(n, 0));
        Due.ran(x, "SPENT", 2, 160, 1, 0, 1, 0, NOTHING);
        int[] outside = {Integer.MIN_VALUE, -1, 7, Integer.MAX_VALUE};
        for (int what : outside) {
            Due.due("ran(" + what + ")", HireScopes.OUTSIDE, x.ran(what));
        }
    }

    /** "SCOPES that were ended (an ACT's own, and by SPENT, too)" */
    private static void scopesCounted() {
        HireScopes x = new HireScopes();
        int n = Lines.of(x).loop(20).scopes(3).ends(4).call(1, 0).act;
        Lines.of(x).scope().call(2, 0).end();
        Lines.of(x).scopes(6).loop(20).loop(20).ends(8);
        Due.due("run", 2, x.run(n, 0));
        Due.ran(x, "60 by END, 10 by SPENT", 2, 160, 0, 0, 70, 0, NOTHING);
    }
}
