/** ==== 3 of the document, of TRY, GUARD, FINISH, CAUSE, SUPPRESSED, LET GO: the edges, each in a test of its own. */
public final class TryEdgesTest {
    private static final int NOTHING = HireScopes.NOTHING;

    // What a BODY, WAY or LAST WAY is left by: END that needs no LINE, RETURN, BREAK, FAIL.
    private static final int END = 16, RETURN = 9, BREAK = 10, FAIL = 8;
    private static final int[] WAYS = {END, RETURN, BREAK, FAIL};

    // The KIND that each KIND is UNDER, as the document names it.
    private static final int[] ABOVE = {NOTHING, 0, 1, 1, 1, 0, 5, 0, 0, 0, 9, 5};

    public static void main(String[] args) {
        kindsOfGuards();
        kindsOfFailuresThatCome();
        firstGuardOfMany();
        noGuardHasIt();
        emptyBodyWaysAndLastWay();
        guardsWithoutAFailure();
        afterScopesWithin();
        failureOfACall();
        noGuardOfThisTry();
        lastWaysFailureIsNotGuarded();
        causeOfWhatLeavesTheWay();
        causeIfItHasNoneYet();
        noCauseOfWhatDoesNotLeave();
        causeOfATornOne();
        bodyAndLastWay();
        wayAndLastWay();
        wayWithoutLastWay();
        bodyWithoutLastWay();
        lastWayOnce();
        lastWayOfAFailureThatIsNotGuarded();
        letGoOnlyWhatWasOnItsWay();
        manyLetGo();
        suppressedOnce();
        lastWayWithinLastWay();
        tornInALastWay();
        breakOfALoopInALastWay();
        tryInALoop();
        Due.end();
    }

    private static Lines way(Lines lines, int way, int kind) {
        return way == END ? lines : lines.add(way, kind, 0);
    }

    /** "the first GUARD with its KIND, or one that it is UNDER (UNDER something UNDER it, too)" */
    private static void kindsOfGuards() {
        for (int guard = 0; guard <= 11; guard++) {
            HireScopes x = new HireScopes();
            int n = x.act();
            for (int kind = 0; kind <= 11; kind++) {
                boolean has = false;
                for (int at = kind; at != NOTHING; at = ABOVE[at]) {
                    has |= at == guard;
                }
                Lines.anew(x, n).tries().fail(kind).guard(guard).end();
                String name = "GUARD " + guard + ", FAILURE " + kind;
                Due.due(name, has ? 0 : 1, x.run(n, 0));
                Due.ran(x, name, has ? 0 : 1, has ? 3 : 2, 1, 0, 1, 0, has ? NOTHING : 0);
            }
        }
    }

    /** Each KIND by a LINE that FAILS so, with the GUARD of that KIND, and of each that it is UNDER. */
    private static void kindsOfFailuresThatCome() {
        for (int kind = 2; kind <= 8; kind++) {
            for (int guard = kind; guard != NOTHING; guard = ABOVE[guard]) {
                HireScopes x = Due.house(1);
                if (kind == 5 || kind == 6) {
                    x.plan(0, 1, kind - 5);
                }
                for (int n = 0; n < 9; n++) {
                    Lines.of(x).call(n + 1, 0);
                }
                int last = x.act();
                Lines lines = Lines.anew(x, last).borrow(0, 0).tries();
                switch (kind) {
                    case 2: lines.borrow(1, 0); break;
                    case 3: lines.use(7); break;
                    case 4: lines.pass(0, 9); break;
                    case 5: lines.use(0); break;
                    case 6: lines.back(0); break;
                    case 7: lines.take(1, 39); break;
                    default: lines.call(0, 0); break;
                }
                lines.guard(guard).end();
                Due.due("KIND " + kind + ", GUARD " + guard, 0, x.run(kind == 8 ? 0 : last, 0));
                Due.failure(x, "KIND " + kind, 0, kind, last);
                Due.ran(x, "KIND " + kind, 0, kind == 8 ? 13 : 4, 1);
            }
        }
    }

    /** "the first GUARD with its KIND .. has it": not one before that has not, nor one behind that would, too. */
    private static void firstGuardOfMany() {
        int[] guards = {10, 9, 0, 10};
        for (int has = 0; has < 4; has++) {
            HireScopes x = new HireScopes();
            Lines lines = Lines.of(x).tries().fail(10);
            for (int i = 0; i < 4; i++) {
                lines.guard(i < has ? 11 : guards[i]).fail(i);
            }
            lines.end();
            Due.due("GUARD " + has, 1, x.run(lines.act, 0));
            Due.ran(x, "GUARD " + has, 1, 4, 2, 0, 1, 0, 1);
            Due.failure(x, "GUARD " + has, 1, has, lines.act, 3 + 2 * has, NOTHING, 0, NOTHING);
        }
    }

    /** A FAILURE that no GUARD of a TRY has goes on to the TRY around. */
    private static void noGuardHasIt() {
        HireScopes x = new HireScopes();
        int n = Lines.of(x).tries().tries().fail(9).guard(10).fail(0).guard(1).fail(0).end().fail(0).guard(9).scope().end()
                .end().act;
        Due.due("run", 0, x.run(n, 0));
        Due.ran(x, "to the TRY around", 0, 5, 1, 0, 2, 0, NOTHING);
        Lines.anew(x, n).tries().fail(9).end().scope().end();
        Due.due("a TRY without GUARDS", 1, x.run(n, 0));
        Due.ran(x, "a TRY without GUARDS", 1, 2, 1, 0, 1, 0, 0);
    }

    /** BODY, WAY and LAST WAY without LINES. */
    private static void emptyBodyWaysAndLastWay() {
        HireScopes x = new HireScopes();
        int n = Lines.of(x).tries().end().act;
        Due.due("TRY END", 0, x.run(n, 0));
        Due.ran(x, "TRY END", 0, 1, 0, 0, 1, 0, NOTHING);
        Lines.anew(x, n).tries().finish().end();
        Due.due("TRY FINISH END", 0, x.run(n, 0));
        Due.ran(x, "TRY FINISH END", 0, 2, 0, 0, 1, 0, NOTHING);
        Lines.anew(x, n).tries().guard(0).end();
        Due.due("TRY GUARD END", 0, x.run(n, 0));
        Due.ran(x, "TRY GUARD END", 0, 1, 0, 0, 1, 0, NOTHING);
        Lines.anew(x, n).tries().fail(3).guard(3).finish().end();
        Due.due("TRY FAIL GUARD FINISH END", 0, x.run(n, 0));
        Due.ran(x, "TRY FAIL GUARD FINISH END", 0, 4, 1, 0, 1, 0, NOTHING);
    }

    /** A BODY that ends by END, RETURN or BREAK does no WAY of a GUARD; GUARDS are no STEPS then. */
    private static void guardsWithoutAFailure() {
        int[] ways = {END, RETURN, BREAK};
        for (int way : ways) {
            HireScopes x = new HireScopes();
            int n = way(Lines.of(x).loop(1).tries(), way, 0).guard(0).fail(0).guard(1).fail(0).end().end().act;
            Due.due("no FAILURE, by " + way, 0, x.run(n, 0));
            Due.ran(x, "no FAILURE, by " + way, 0, way == END ? 2 : 3, 0, 0, 1, 0, NOTHING);
        }
    }

    /** "behind the ends of the SCOPES within": in the WAY their LOANS are over; those of SCOPES around are not. */
    private static void afterScopesWithin() {
        HireScopes x = Due.house(4);
        x.plan(1, 1, 1);
        int n = Lines.of(x).borrow(0, 0).tries().borrow(1, 3).scope().borrow(2, 1).scope().borrow(3, 2).fail(10).end().end()
                .guard(9).use(0).use(1).borrow(4, 2).end().act;
        Due.due("run", 1, x.run(n, 0));
        Due.ran(x, "SCOPES within", 1, 12, 3, 4, 3, 0, 2);
        Due.failure(x, "the one on its way", 0, 10, n, 7, NOTHING, NOTHING, NOTHING);
        Due.failure(x, "the SCOPE's end", 1, 6, n, 3, 1, NOTHING, 0);
        Due.failure(x, "in the WAY", 2, 2, n, 13, 2, 0, NOTHING);
    }

    /** A GUARD around a CALL has what the ACT fails by, behind the end of that ACT's SCOPE. */
    private static void failureOfACall() {
        HireScopes x = Due.house(1);
        int n = Lines.of(x).tries().call(1, 0).guard(11).borrow(0, 0).end().act;
        int called = Lines.of(x).call(2, 0).act;
        int last = Lines.of(x).borrow(0, 0).scope().fail(11).end().act;
        Due.due("run", 1, x.run(n, 0));
        Due.failure(x, "FAIL", 0, 11, last, 2, NOTHING, NOTHING, NOTHING);
        Due.failure(x, "it is in THE CLEANING", 1, 2, n, 3, 0, 0, NOTHING);
        Due.ran(x, "a CALL's FAILURE", 1, 8, 2, 1, 4, 0, 1);
        Due.due("ACT " + called, 1, called);
    }

    /** "no GUARD of this TRY has it", of a FAILURE that leaves a WAY: no GUARD before, itself, or behind. */
    private static void noGuardOfThisTry() {
        for (int place = 0; place < 3; place++) {
            HireScopes x = new HireScopes();
            Lines lines = Lines.of(x).tries().fail(place == 0 ? 7 : place == 1 ? 8 : 9);
            int[] kinds = {7, 8, 9};
            for (int kind : kinds) {
                lines.guard(kind).fail(kinds[(place + 1) % 3]);
            }
            lines.guard(0).fail(0).end();
            Due.due("WAY " + place, 1, x.run(lines.act, 0));
            Due.ran(x, "WAY " + place, 1, 4, 2, 0, 1, 0, 1);
            Due.failure(x, "WAY " + place, 1, kinds[(place + 1) % 3], lines.act, 3 + 2 * place, NOTHING, 0, NOTHING);
        }
    }

    /** A FAILURE in a LAST WAY is not in the BODY: no GUARD of this TRY has it, and it gets no CAUSE by it. */
    private static void lastWaysFailureIsNotGuarded() {
        HireScopes x = new HireScopes();
        int n = Lines.of(x).tries().guard(0).scope().end().finish().fail(9).end().act;
        Due.due("behind a BODY", 1, x.run(n, 0));
        Due.ran(x, "behind a BODY", 1, 3, 1, 0, 1, 0, 0);
        Lines.anew(x, n).tries().fail(8).guard(8).guard(0).scope().end().finish().fail(9).end();
        Due.due("behind a WAY", 1, x.run(n, 0));
        Due.ran(x, "behind a WAY", 1, 5, 2, 0, 1, 0, 1);
        Due.failure(x, "behind a WAY", 0, 8, n, 1, NOTHING, NOTHING, NOTHING);
        Due.failure(x, "behind a WAY", 1, 9, n, 7, NOTHING, NOTHING, NOTHING);
        Lines.anew(x, n).tries().tries().finish().fail(9).end().guard(9).scope().end().end();
        Due.due("a TRY around has it", 0, x.run(n, 0));
        Due.ran(x, "a TRY around has it", 0, 6, 1, 0, 2, 0, NOTHING);
    }

    /** "a FAILURE that leaves that gets the one that was guarded as its CAUSE" */
    private static void causeOfWhatLeavesTheWay() {
        HireScopes x = new HireScopes();
        int n = Lines.of(x).tries().fail(7).guard(7).tries().fail(8).guard(8).tries().fail(9).guard(9).fail(10).end().end()
                .end().act;
        Due.due("WAYS in WAYS", 1, x.run(n, 0));
        Due.ran(x, "WAYS in WAYS", 1, 10, 4, 0, 1, 0, 3);
        int[] lines = {1, 4, 7, 9};
        for (int i = 0; i < 4; i++) {
            Due.failure(x, "WAYS in WAYS", i, 7 + i, n, lines[i], NOTHING, i == 3 ? 2 : NOTHING, NOTHING);
        }
        // WAYS behind WAYS: each has the one before as its CAUSE
        Lines.anew(x, n).tries().tries().tries().fail(7).guard(7).fail(8).end().guard(8).fail(9).end().guard(9).fail(10)
                .end();
        Due.due("WAYS behind WAYS", 1, x.run(n, 0));
        Due.ran(x, "WAYS behind WAYS", 1, 10, 4, 0, 1, 0, 3);
        int[] behind = {3, 5, 8, 11};
        for (int i = 0; i < 4; i++) {
            Due.failure(x, "WAYS behind WAYS", i, 7 + i, n, behind[i], NOTHING, i == 0 ? NOTHING : i - 1, NOTHING);
        }
    }

    /** "if it has none yet": one that leaves a WAY within a WAY has its CAUSE, and keeps it. */
    private static void causeIfItHasNoneYet() {
        HireScopes x = new HireScopes();
        int n = Lines.of(x).tries().fail(7).guard(7).tries().fail(8).guard(8).fail(9).end().end().act;
        Due.due("in the same ACT", 1, x.run(n, 0));
        Due.failure(x, "in the same ACT", 2, 9, n, 6, NOTHING, 1, NOTHING);
        Lines.anew(x, n).tries().fail(7).guard(7).call(1, 0).end();
        int called = Lines.of(x).tries().fail(8).guard(8).fail(9).end().act;
        Due.due("in an ACT that it calls", 1, x.run(n, 0));
        Due.failure(x, "in an ACT that it calls", 2, 9, called, 3, NOTHING, 1, NOTHING);
        // one that had none gets that of the outer WAY
        Lines.anew(x, n).tries().fail(7).guard(7).tries().fail(8).guard(9).end().end();
        Due.due("of the outer WAY", 1, x.run(n, 0));
        Due.failure(x, "of the outer WAY", 1, 8, n, 4, NOTHING, 0, NOTHING);
    }

    /** What is guarded within a WAY, what comes behind the TRY or by its LAST WAY does not leave the WAY: no CAUSE. */
    private static void noCauseOfWhatDoesNotLeave() {
        HireScopes x = Due.house(1);
        int n = Lines.of(x).tries().fail(7).guard(7).tries().fail(8).guard(8).end().finish().tries().fail(9).guard(9).end()
                .end().fail(10).act;
        Due.due("run", 1, x.run(n, 0));
        Due.ran(x, "no CAUSE", 1, 11, 4, 0, 1, 0, 3);
        for (int i = 0; i < 4; i++) {
            Due.due("CAUSE of " + i, NOTHING, x.failure(i, 4));
        }
        x.plan(0, 1, 1);
        Lines.anew(x, n).borrow(0, 0).tries().fail(7).guard(7).returns().end();
        Due.due("the ACT's end", 1, x.run(n, 0));
        Due.failure(x, "the ACT's end", 1, 6, n, NOTHING, 0, NOTHING, NOTHING);
    }

    /** A SCOPE's end within a WAY: the TORN one that is on its way leaves the WAY, one that is SUPPRESSED does not. */
    private static void causeOfATornOne() {
        HireScopes x = Due.house(2);
        x.plan(0, 1, 1);
        x.plan(1, 1, 1);
        int n = Lines.of(x).tries().fail(7).guard(7).scope().borrow(0, 0).borrow(1, 1).end().end().act;
        Due.due("run", 1, x.run(n, 0));
        Due.failure(x, "on its way", 1, 6, n, 3, 1, 0, NOTHING);
        Due.failure(x, "SUPPRESSED", 2, 6, n, 3, 0, NOTHING, 1);
    }

    /**
     * What a TRY is left by, if its BODY or WAY is left by one and its LAST WAY by another: each of four by each of
     * four. Behind the TRY a SCOPE is met, behind the LOOP two: so their count tells where the RUN went on.
     */
    private static Lines markers(Lines lines) {
        return lines.scope().end().end().scopes(2).ends(2);
    }

    private static int scopesOf(int way) {
        return way == END ? 4 : way == BREAK ? 3 : 1;
    }

    private static int line(int way) {
        return way == END ? 0 : 1;
    }

    private static int markerSteps(int way) {
        return scopesOf(way) - 1;
    }

    /** "on each way out of BODY .. the LAST WAY is done, once: when it ends by END, what was on its way goes on; ..." */
    private static void bodyAndLastWay() {
        for (int body : WAYS) {
            for (int last : WAYS) {
                HireScopes x = new HireScopes();
                int n = markers(way(way(Lines.of(x).loop(1).tries(), body, 9).finish(), last, 10).end()).act;
                int out = last == END ? body : last;
                int failures = (body == FAIL ? 1 : 0) + (last == FAIL ? 1 : 0);
                String name = "BODY by " + body + ", LAST WAY by " + last;
                Due.due(name, out == FAIL ? 1 : 0, x.run(n, 0));
                Due.ran(x, name, out == FAIL ? 1 : 0, 3 + line(body) + line(last) + markerSteps(out), failures, 0,
                        scopesOf(out), body == FAIL && (last == RETURN || last == BREAK) ? 1 : 0,
                        out == FAIL ? failures - 1 : NOTHING);
                if (body == FAIL) {
                    Due.failure(x, name, 0, 9, n, 2, NOTHING, NOTHING, last == FAIL ? 1 : NOTHING);
                }
                if (last == FAIL) {
                    Due.failure(x, name, failures - 1, 10, n, 3 + line(body), NOTHING, NOTHING, NOTHING);
                }
            }
        }
    }

    /** "on each way out of .. WAYS": the one that was guarded is not on its way any more, so never LET GO. */
    private static void wayAndLastWay() {
        for (int way : WAYS) {
            for (int last : WAYS) {
                HireScopes x = new HireScopes();
                int n = markers(way(way(Lines.of(x).loop(1).tries().fail(7).guard(0), way, 9).finish(), last, 10).end())
                        .act;
                int out = last == END ? way : last;
                int failures = 1 + (way == FAIL ? 1 : 0) + (last == FAIL ? 1 : 0);
                String name = "WAY by " + way + ", LAST WAY by " + last;
                Due.due(name, out == FAIL ? 1 : 0, x.run(n, 0));
                Due.ran(x, name, out == FAIL ? 1 : 0, 5 + line(way) + line(last) + markerSteps(out), failures, 0,
                        scopesOf(out), way == FAIL && (last == RETURN || last == BREAK) ? 1 : 0,
                        out == FAIL ? failures - 1 : NOTHING);
                Due.failure(x, name, 0, 7, n, 2, NOTHING, NOTHING, NOTHING);
                if (way == FAIL) {
                    Due.failure(x, name, 1, 9, n, 4, NOTHING, 0, last == FAIL ? 2 : NOTHING);
                }
                if (last == FAIL) {
                    Due.failure(x, name, failures - 1, 10, n, 5 + line(way), NOTHING, NOTHING, NOTHING);
                }
            }
        }
    }

    /** "its WAY is done", of a TRY without FINISH: what the WAY is left by goes on behind the TRY. */
    private static void wayWithoutLastWay() {
        for (int way : WAYS) {
            HireScopes x = new HireScopes();
            int n = markers(way(Lines.of(x).loop(1).tries().fail(7).guard(0), way, 9).guard(0).fail(0).end()).act;
            String name = "WAY by " + way;
            Due.due(name, way == FAIL ? 1 : 0, x.run(n, 0));
            Due.ran(x, name, way == FAIL ? 1 : 0, 4 + line(way) + markerSteps(way), way == FAIL ? 2 : 1, 0, scopesOf(way),
                    0, way == FAIL ? 1 : NOTHING);
        }
    }

    /** A BODY of a TRY without FINISH, whose GUARD has none: what it is left by goes on behind the TRY. */
    private static void bodyWithoutLastWay() {
        for (int way : WAYS) {
            HireScopes x = new HireScopes();
            int n = markers(way(Lines.of(x).loop(1).tries(), way, 9).guard(10).fail(0).end()).act;
            String name = "BODY by " + way;
            Due.due(name, way == FAIL ? 1 : 0, x.run(n, 0));
            Due.ran(x, name, way == FAIL ? 1 : 0, 2 + line(way) + markerSteps(way), way == FAIL ? 1 : 0, 0, scopesOf(way),
                    0, way == FAIL ? 0 : NOTHING);
        }
    }

    /** "once": behind a BODY and a WAY that both fail the LAST WAY is done once, and not again when it fails itself. */
    private static void lastWayOnce() {
        HireScopes x = Due.house(3);
        int n = Lines.of(x).tries().fail(7).guard(7).fail(8).finish().take(0, 0).fail(9).end().act;
        Due.due("run", 1, x.run(n, 0));
        Due.ran(x, "once", 1, 7, 3, 1, 1, 0, 2);
        Due.failure(x, "once", 1, 8, n, 3, NOTHING, 0, 2);
        Due.failure(x, "once", 2, 9, n, 6, NOTHING, NOTHING, NOTHING);
        Due.due("one PART was taken", NOTHING, x.log(1, 0));
    }

    /** "on each way out of BODY": by a FAILURE that no GUARD of the TRY has, before one around has it. */
    private static void lastWayOfAFailureThatIsNotGuarded() {
        HireScopes x = Due.house(1);
        int n = Lines.of(x).tries().tries().fail(7).guard(8).fail(0).finish().hold(0, 0).end().guard(7).use(0).end().act;
        Due.due("run", 0, x.run(n, 0));
        Due.ran(x, "its LAST WAY, then the GUARD around", 0, 7, 1, 1, 1, 0, NOTHING);
    }

    /** "a FAILURE that was on its way .. is LET GO": not what is guarded, SUPPRESSED, or goes on. */
    private static void letGoOnlyWhatWasOnItsWay() {
        HireScopes x = Due.house(1);
        x.plan(0, 1, 1);
        // the one on its way has one SUPPRESSED UNDER it: it alone is LET GO
        int n = Lines.of(x).tries().scope().borrow(0, 0).fail(7).end().finish().returns().end().act;
        Due.due("one SUPPRESSED UNDER it", 0, x.run(n, 0));
        Due.ran(x, "one SUPPRESSED UNDER it", 0, 6, 2, 1, 2, 1, NOTHING);
        Due.failure(x, "one SUPPRESSED UNDER it", 1, 6, n, 1, 0, NOTHING, 0);
        // a LAST WAY that calls an ACT, loops, and guards: it ends by END
        Lines.anew(x, n).tries().fail(7).finish().call(1, 0).loop(2).breaks().end().tries().fail(8).guard(8).end().end();
        Lines.of(x).returns();
        Due.due("it goes on", 1, x.run(n, 0));
        Due.ran(x, "it goes on", 1, 10, 2, 0, 2, 0, 0);
    }

    /** LET GO counts each: in each turn of a LOOP one, up to the 16 FAILURES that there may be. */
    private static void manyLetGo() {
        HireScopes x = new HireScopes();
        int n = Lines.of(x).loop(16).loop(1).tries().fail(9).finish().breaks().end().end().end().act;
        Due.due("16 LET GO", 0, x.run(n, 0));
        Due.ran(x, "16 LET GO", 0, 96, 16, 0, 1, 16, NOTHING);
        Lines.anew(x, n).loop(17).loop(1).tries().fail(9).finish().breaks().end().end().end();
        Due.due("the 17th would be", 2, x.run(n, 0));
        Due.ran(x, "the 17th would be", 2, 100, 16, 0, 1, 16, NOTHING);
        Lines.anew(x, n);
        x.run(n, 0);
        Due.ran(x, "the next RUN has none", 0, 0, 0, 0, 1, 0, NOTHING);
    }

    /** What is SUPPRESSED UNDER a FAILURE stays so when that one is SUPPRESSED, guarded or LET GO. */
    private static void suppressedOnce() {
        HireScopes x = Due.house(1);
        int n = Lines.of(x).tries().tries().tries().fail(7).finish().fail(8).end().finish().fail(9).end().guard(9).end().act;
        Due.due("run", 0, x.run(n, 0));
        Due.ran(x, "three", 0, 9, 3, 0, 1, 0, NOTHING);
        Due.failure(x, "three", 0, 7, n, 3, NOTHING, NOTHING, 1);
        Due.failure(x, "three", 1, 8, n, 5, NOTHING, NOTHING, 2);
        Due.failure(x, "three", 2, 9, n, 8, NOTHING, NOTHING, NOTHING);
    }

    /** LAST WAYS within LAST WAYS: each has what was on its way as it began. */
    private static void lastWayWithinLastWay() {
        for (int inner : WAYS) {
            HireScopes x = new HireScopes();
            Lines lines = Lines.of(x).loop(1).tries().fail(7).finish().tries().fail(8).finish();
            int n = markers(way(lines, inner, 9).end().end()).act;
            String name = "the inner LAST WAY by " + inner;
            Due.due(name, inner == END || inner == FAIL ? 1 : 0, x.run(n, 0));
            Due.ran(x, name, inner == END || inner == FAIL ? 1 : 0, 7 + line(inner) + (inner == BREAK ? 2 : 0),
                    inner == FAIL ? 3 : 2, 0, inner == BREAK ? 3 : 1, inner == RETURN || inner == BREAK ? 2 : 0,
                    inner == END ? 1 : inner == FAIL ? 2 : NOTHING);
            int under = inner == END ? 1 : inner == FAIL ? 2 : NOTHING;
            Due.failure(x, name, 0, 7, n, 2, NOTHING, NOTHING, under);
            Due.failure(x, name, 1, 8, n, 5, NOTHING, NOTHING, inner == FAIL ? 2 : NOTHING);
        }
    }

    /** In a LAST WAY nothing is on its way: a TORN one of a SCOPE in it goes in place of what was, as it leaves. */
    private static void tornInALastWay() {
        int[] ways = {END, RETURN, BREAK};
        for (int way : ways) {
            HireScopes x = Due.house(2);
            x.plan(0, 1, 1);
            x.plan(1, 1, 1);
            Lines lines = Lines.of(x).loop(1).tries().fail(7).finish().scope().borrow(0, 0).borrow(0, 1);
            int n = markers(way(lines, way, 0).end().end()).act;
            String name = "a LAST WAY's SCOPE by " + way;
            Due.due(name, 1, x.run(n, 0));
            Due.ran(x, name, 1, 7 + line(way), 3, 2, 2, 0, 1);
            Due.failure(x, name, 0, 7, n, 2, NOTHING, NOTHING, 1);
            Due.failure(x, name, 1, 6, n, 4, 1, NOTHING, NOTHING);
            Due.failure(x, name, 2, 6, n, 4, 0, NOTHING, 1);
        }
    }

    /** "when it ends by END, what was on its way goes on": a BREAK of a LOOP within the LAST WAY ends no more than that. */
    private static void breakOfALoopInALastWay() {
        HireScopes x = new HireScopes();
        int n = Lines.of(x).loop(2).tries().returns().finish().loop(5).breaks().end().end().scope().end().end().act;
        Due.due("it does not leave the LAST WAY", 0, x.run(n, 0));
        Due.ran(x, "it does not leave the LAST WAY", 0, 6, 0, 0, 1, 0, NOTHING);
    }

    /** A TRY that is met again guards anew: what it had in the turn before is not its any more. */
    private static void tryInALoop() {
        HireScopes x = new HireScopes();
        int n = Lines.of(x).loop(3).tries().tries().fail(7).guard(7).fail(8).finish().end().guard(8).end().end().act;
        Due.due("run", 0, x.run(n, 0));
        Due.ran(x, "three turns", 0, 24, 6, 0, 1, 0, NOTHING);
        for (int i = 0; i < 6; i += 2) {
            Due.failure(x, "three turns", i, 7, n, 3, NOTHING, NOTHING, NOTHING);
            Due.failure(x, "three turns", i + 1, 8, n, 5, NOTHING, i, NOTHING);
        }
    }
}
