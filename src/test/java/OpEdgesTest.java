/** ==== 2 of the document, of OPS and KINDS, in RUNS: the edges, each in a test of its own. */
public final class OpEdgesTest {
    private static final int NOTHING = HireScopes.NOTHING;

    public static void main(String[] args) {
        firstAndLastSlot();
        firstAndLastPart();
        borrowTaken();
        holdTaken();
        takeIsEmpty();
        takeIsOfTheFirst();
        overOfNothing();
        overOfWhatIsOver();
        takenOfUseAndLend();
        backAndPassOfWhatIsLentOn();
        backGivesSubLoansBack();
        lendToItsOwnSlot();
        passBounds();
        passOfNoSuchScope();
        passOfALongLoan();
        overBeforeClosed();
        callWithin8And9();
        callOfItself();
        callClosed();
        deepBeforeClosed();
        slotZeroOfACall();
        slotsOfItsOwn();
        aSlotThatGetsAnother();
        aSlotKeepsWhatItHadBehindAFailure();
        failOfEachKind();
        loopTurns();
        returnAndBreak();
        Due.end();
    }

    /** "s, t are SLOTS 0 .. 7": the first and the last of each OP that has one. */
    private static void firstAndLastSlot() {
        for (int s = 0; s <= 7; s += 7) {
            int t = 7 - s;
            HireScopes x = Due.house(3);
            int called = Lines.of(x).use(0).act;
            int n = Lines.of(x).borrow(s, 0).use(s).lend(s, t).use(t).back(t).use(s).pass(s, 0).call(called, s).back(s)
                    .take(s, 0).use(s).hold(t, 2).use(t).use(s).act;
            Due.due("SLOTS " + s + " and " + t, 0, x.run(n, 0));
            Due.ran(x, "SLOTS " + s + " and " + t, 0, 15, 0, 4, 2, 0, NOTHING);
            Lines.anew(x, n).use(s);
            Due.due("SLOT " + s + " in the next RUN", 1, x.run(n, 0));
            Due.failure(x, "SLOT " + s + " in the next RUN", 0, 3, n, 0, NOTHING, NOTHING, NOTHING);
        }
    }

    /** "p a PART's number 0 .. 59": the first and the last there is, and the last that may be, which is not there. */
    private static void firstAndLastPart() {
        HireScopes x = Due.house(59);
        int n = Lines.of(x).borrow(0, 0).hold(1, 58).borrow(2, 59).act;
        Due.due("PART 59 of 59", 1, x.run(n, 0));
        Due.failure(x, "PART 59 of 59", 0, 2, n, 2, 59, NOTHING, NOTHING);
        Due.due("LEAK of PART 58", 58, x.leak(0, 0));
        x.part(0, 1);
        x.clean(60);
        Lines.anew(x, n).borrow(2, 59).borrow(0, 0);
        Due.due("PART 59 of 60", 0, x.run(n, 0));
        Due.cleaning(x, "PART 59 of 60", 0, 59);
        x.clean(60);
        Lines.anew(x, n).hold(2, 59);
        Due.due("HOLD of PART 59", 0, x.run(n, 0));
        Due.due("LEAK of PART 59", 59, x.leak(1, 0));
    }

    /** "2 TAKEN: of BORROW .. a PART that is not on its RACK, or that there is not": LENT, in THE CLEANING, LOST, none. */
    private static void borrowTaken() {
        takenBy(0);
    }

    /** "2 TAKEN: of .. HOLD a PART that is not on its RACK, or that there is not": the same of HOLD. */
    private static void holdTaken() {
        takenBy(2);
    }

    private static void takenBy(int op) {
        HireScopes x = Due.house(5);
        x.plan(3, 1, 1);
        x.run(Lines.of(x).hold(0, 1).borrow(1, 2).borrow(2, 3).act, 0);
        int n = x.act();
        int[] taken = {1, 2, 3, 5};
        for (int p : taken) {
            Lines.anew(x, n).add(op, 0, p);
            Due.due("OP " + op + " of PART " + p, 1, x.run(n, 0));
            Due.ran(x, "OP " + op + " of PART " + p, 1, 1, 1, 0, 1, 0, 0);
            Due.failure(x, "OP " + op + " of PART " + p, 0, 2, n, 0, p, NOTHING, NOTHING);
        }
        Lines.anew(x, n).add(op, 0, 4).add(op, 1, 4);
        Due.due("OP " + op + " twice", 1, x.run(n, 0));
        Due.failure(x, "OP " + op + " twice", 0, 2, n, 1, 4, NOTHING, NOTHING);
        Lines.anew(x, n).add(op, 0, 59);
        Due.due("OP " + op + " of PART 59", 1, x.run(n, 0));
        Due.failure(x, "OP " + op + " of PART 59", 0, 2, n, 0, 59, NOTHING, NOTHING);
        Lines.anew(x, n).add(op, 0, 0);
        Due.due("OP " + op + " of PART 0, on its RACK", 0, x.run(n, 0));
    }

    /** "7 EMPTY (0): of TAKE": no PART at all, none of the SORT, none of it on its RACK. */
    private static void takeIsEmpty() {
        HireScopes x = new HireScopes();
        int n = Lines.of(x).take(0, 0).act;
        Due.due("no PARTS", 1, x.run(n, 0));
        Due.failure(x, "no PARTS", 0, 7, n, 0, NOTHING, NOTHING, NOTHING);
        for (int p = 0; p < 4; p++) {
            x.part(38, 1);
        }
        Lines.anew(x, n).take(0, 39);
        Due.due("none of SORT 39", 1, x.run(n, 0));
        Due.failure(x, "none of SORT 39", 0, 7, n, 0, NOTHING, NOTHING, NOTHING);
        x.plan(3, 1, 1);
        Lines.anew(x, n).hold(0, 0).borrow(1, 1).back(1).borrow(2, 2).borrow(3, 3).tries().back(3).guard(6).end().use(2)
                .take(3, 38);
        Due.due("LENT, in THE CLEANING, LOST", 1, x.run(n, 0));
        Due.ran(x, "LENT, in THE CLEANING, LOST", 1, 10, 2, 4, 1, 0, 1);
        Due.failure(x, "LENT, in THE CLEANING, LOST", 1, 7, n, 10, NOTHING, NOTHING, NOTHING);
    }

    /** "of the first PART of SORT n .. that is on its RACK" */
    private static void takeIsOfTheFirst() {
        HireScopes x = new HireScopes();
        for (int p = 0; p < 60; p++) {
            x.part(p < 30 ? 1 : 39, 1);
        }
        int n = Lines.of(x).take(0, 39).take(1, 1).back(0).take(0, 39).act;
        Due.due("run", 0, x.run(n, 0));
        Due.cleaning(x, "the first on its RACK", 30, 31, 0);
        Lines.anew(x, n).loop(20).take(0, 39).end().loop(7).take(0, 39).end();
        Due.due("27 of those that are left", 0, x.run(n, 0));
        Lines.anew(x, n).take(0, 39).take(0, 39);
        Due.due("the last, and none", 1, x.run(n, 0));
        Due.failure(x, "none", 0, 7, n, 1, NOTHING, NOTHING, NOTHING);
        Due.due("the last is PART 59", 59, x.log(0, 0));
        x.clean(1);
        Lines.anew(x, n).take(0, 39);
        Due.due("the first again", 0, x.run(n, 0));
        Due.due("it is PART 30", 30, x.log(0, 0));
    }

    /** "3 OVER (1): of USE, BACK, LEND, PASS a SLOT without a LOAN" */
    private static void overOfNothing() {
        for (int op = 3; op <= 6; op++) {
            HireScopes x = Due.house(1);
            int n = Lines.of(x).borrow(0, 0).add(op, 7, 0).act;
            Due.due("OP " + op + " of NOTHING", 1, x.run(n, 0));
            Due.ran(x, "OP " + op + " of NOTHING", 1, 2, 1, 1, 1, 0, 0);
            Due.failure(x, "OP " + op + " of NOTHING", 0, 3, n, 1, NOTHING, NOTHING, NOTHING);
        }
    }

    /** "or with one that is not OPEN": by BACK, by a SCOPE's end, by BACK of the LOAN that it is a SUB-LOAN of. */
    private static void overOfWhatIsOver() {
        for (int op = 3; op <= 6; op++) {
            HireScopes x = Due.house(2);
            int n = Lines.of(x).borrow(7, 1).back(7).add(op, 7, 0).act;
            over(x, n, "by BACK, OP " + op, 2, 3);
            Lines.anew(x, n).scope().borrow(7, 1).end().add(op, 7, 0);
            over(x, n, "by END, OP " + op, 3, 3);
            Lines.anew(x, n).borrow(0, 1).lend(0, 7).back(0).add(op, 7, 0);
            over(x, n, "a SUB-LOAN by its LOAN, OP " + op, 3, 4);
            Lines.anew(x, n).hold(7, 1).back(7).add(op, 7, 0);
            over(x, n, "a LONG LOAN by BACK, OP " + op, 2, 3);
        }
    }

    private static void over(HireScopes x, int n, String name, int line, int steps) {
        Due.due(name, 1, x.run(n, 0));
        Due.failure(x, name, 0, 3, n, line, 1, NOTHING, NOTHING);
        Due.ran(x, name, 1, steps, 1);
        x.clean(60);
    }

    /** "of USE, LEND a LOAN with an OPEN SUB-LOAN"; when the SUB-LOAN is over they may be. */
    private static void takenOfUseAndLend() {
        for (int op = 3; op <= 5; op += 2) {
            HireScopes x = Due.house(1);
            int n = Lines.of(x).borrow(0, 0).lend(0, 1).add(op, 0, 2).act;
            Due.due("OP " + op, 1, x.run(n, 0));
            Due.failure(x, "OP " + op, 0, 2, n, 2, 0, NOTHING, NOTHING);
            Due.ran(x, "OP " + op, 1, 3, 1, 2);
            x.clean(60);
            Lines.anew(x, n).borrow(0, 0).lend(0, 1).lend(1, 2).add(op, 1, 3);
            Due.due("OP " + op + " of a SUB-LOAN", 1, x.run(n, 0));
            Due.failure(x, "OP " + op + " of a SUB-LOAN", 0, 2, n, 3, 0, NOTHING, NOTHING);
            x.clean(60);
            Lines.anew(x, n).borrow(0, 0).lend(0, 1).back(1).add(op, 0, 2).back(0);
            Due.due("OP " + op + " behind the SUB-LOAN", 0, x.run(n, 0));
            x.clean(60);
            Lines.anew(x, n).borrow(0, 0).scope().lend(0, 1).end().add(op, 0, 2);
            Due.due("OP " + op + " behind the SUB-LOAN's SCOPE", 0, x.run(n, 0));
        }
    }

    /** BACK and PASS a LOAN with an OPEN SUB-LOAN: they are not TAKEN. */
    private static void backAndPassOfWhatIsLentOn() {
        HireScopes x = Due.house(2);
        int n = Lines.of(x).borrow(0, 0).borrow(1, 1).lend(0, 2).pass(0, 0).act;
        Due.due("PASS", 0, x.run(n, 0));
        Due.cleaning(x, "PASS", 0, 1);
        x.clean(60);
        Lines.anew(x, n).borrow(0, 0).borrow(1, 1).lend(0, 2).back(0).use(1);
        Due.due("BACK", 0, x.run(n, 0));
        Due.cleaning(x, "BACK", 0, 1);
    }

    /** "first its OPEN SUB-LOANS are given back": SUB-LOANS of SUB-LOANS, too, wherever they belong. */
    private static void backGivesSubLoansBack() {
        for (int s = 1; s <= 3; s++) {
            HireScopes x = Due.house(1);
            int n = Lines.of(x).borrow(0, 0).lend(0, 1).scope().lend(1, 2).lend(2, 3).pass(3, 1).back(0).use(s).end().act;
            Due.due("SUB-LOAN in SLOT " + s, 1, x.run(n, 0));
            Due.failure(x, "SUB-LOAN in SLOT " + s, 0, 3, n, 7, 0, NOTHING, NOTHING);
            Due.log(x, "one giving back alone", 0, 0, 0, 0);
            Due.due("one giving back alone", NOTHING, x.log(1, 0));
            // BACK of a SUB-LOAN leaves the LOAN that it is of
            x.clean(60);
            Lines.anew(x, n).borrow(0, 0).lend(0, 1).lend(1, 2).back(1).use(0).use(s < 3 ? s : 1);
            Due.due("BACK of a SUB-LOAN", 1, x.run(n, 0));
            Due.failure(x, "BACK of a SUB-LOAN", 0, 3, n, 5, 0, NOTHING, NOTHING);
        }
    }

    /** LEND s s: the SLOT has the SUB-LOAN then; so over and over. */
    private static void lendToItsOwnSlot() {
        HireScopes x = Due.house(1);
        int n = Lines.of(x).borrow(7, 0).loop(20).lend(7, 7).use(7).end().back(7).use(7).act;
        Due.due("run", 1, x.run(n, 0));
        Due.ran(x, "LEND to its own SLOT", 1, 63, 1, 21, 1, 0, 0);
        Due.failure(x, "the SUB-LOAN is over", 0, 3, n, 6, 0, NOTHING, NOTHING);
        Due.log(x, "the LOAN by the ACT's end", 0, 0, 1, 0);
    }

    /** "PASS s n: the LOAN goes to the n-th SCOPE (0 .. 9) outward from THE INNERMOST, 0 that itself." */
    private static void passBounds() {
        for (int n = 0; n <= 9; n++) {
            HireScopes x = Due.house(4);
            int outer = Lines.of(x).borrow(0, 0).call(1, 0).borrow(1, 1).act;
            int inner = Lines.of(x).borrow(0, 2).scopes(8).borrow(1, 3).pass(1, n).ends(8).act;
            Due.due("PASS to SCOPE " + n, 0, x.run(outer, 0));
            Due.ran(x, "PASS to SCOPE " + n, 0, 14, 0, 4, 10, 0, NOTHING);
            if (n == 9) {
                Due.cleaning(x, "PASS to the ACT that called", 2, 1, 3, 0);
            } else {
                Due.cleaning(x, "PASS to SCOPE " + n, 3, 2, 1, 0);
            }
            Due.due("ACT " + inner, 1, inner);
        }
    }

    /** "4 CLOSED (1): of PASS that there is no such SCOPE": the outermost there is, and the first that is not. */
    private static void passOfNoSuchScope() {
        for (int scopes = 0; scopes <= 8; scopes++) {
            HireScopes x = Due.house(1);
            int n = Lines.of(x).scopes(scopes).borrow(0, 0).pass(0, scopes).ends(scopes).act;
            Due.due("PASS to the outermost of " + (scopes + 1), 0, x.run(n, 0));
            x.clean(60);
            Lines.anew(x, n).scopes(scopes).borrow(0, 0).pass(0, scopes + 1).ends(scopes);
            Due.due("PASS beyond " + (scopes + 1), 1, x.run(n, 0));
            Due.failure(x, "PASS beyond " + (scopes + 1), 0, 4, n, scopes + 1, 0, NOTHING, NOTHING);
            x.clean(60);
            // a SCOPE that is ended is none
            Lines.anew(x, n).scopes(scopes).ends(scopes).borrow(0, 0).pass(0, 1);
            Due.due("PASS behind the SCOPES' ends", 1, x.run(n, 0));
            Due.failure(x, "PASS behind the SCOPES' ends", 0, 4, n, 2 * scopes + 1, 0, NOTHING, NOTHING);
        }
    }

    /** "or a LONG LOAN": to SCOPES that there are, too; a SUB-LOAN of one may be passed. */
    private static void passOfALongLoan() {
        HireScopes x = Due.house(1);
        int n = Lines.of(x).hold(0, 0).scope().pass(0, 1).end().act;
        Due.due("a LONG LOAN", 1, x.run(n, 0));
        Due.failure(x, "a LONG LOAN", 0, 4, n, 2, 0, NOTHING, NOTHING);
        x.giveBack(0);
        x.clean(60);
        Lines.anew(x, n).hold(0, 0).scope().lend(0, 1).pass(1, 1).end().use(1).use(0);
        Due.due("its SUB-LOAN", 1, x.run(n, 0));
        Due.failure(x, "its SUB-LOAN is OPEN behind the SCOPE", 0, 2, n, 6, 0, NOTHING, NOTHING);
    }

    /** PASS of what is not OPEN is OVER, wherever to, and a LONG LOAN's, too. */
    private static void overBeforeClosed() {
        HireScopes x = Due.house(1);
        int n = Lines.of(x).pass(0, 9).act;
        Due.due("NOTHING to no such SCOPE", 1, x.run(n, 0));
        Due.failure(x, "NOTHING to no such SCOPE", 0, 3, n, 0, NOTHING, NOTHING, NOTHING);
        Lines.anew(x, n).borrow(0, 0).back(0).pass(0, 9);
        Due.due("what is over to no such SCOPE", 1, x.run(n, 0));
        Due.failure(x, "what is over to no such SCOPE", 0, 3, n, 2, 0, NOTHING, NOTHING);
        x.clean(60);
        Lines.anew(x, n).hold(0, 0).back(0).pass(0, 0);
        Due.due("a LONG LOAN that is over", 1, x.run(n, 0));
        Due.failure(x, "a LONG LOAN that is over", 0, 3, n, 2, 0, NOTHING, NOTHING);
    }

    /** "8 DEEP (0): of a CALL in an ACT that is within 9 others" */
    private static void callWithin8And9() {
        HireScopes x = new HireScopes();
        for (int n = 0; n < 11; n++) {
            Lines.of(x).call(n + 1, 0);
        }
        Lines.of(x);
        Due.due("from ACT 2 on ten are under way", 0, x.run(2, 0));
        Due.ran(x, "ten under way", 0, 9, 0, 0, 10, 0, NOTHING);
        Due.due("from ACT 1 on eleven would be", 1, x.run(1, 0));
        Due.ran(x, "eleven would be", 1, 10, 1, 0, 10, 0, 0);
        Due.failure(x, "eleven would be", 0, 8, 10, 0, NOTHING, NOTHING, NOTHING);
        // ACTS that are left are not around any more
        Lines.anew(x, 0).loop(20).call(11, 0).end().call(3, 0);
        Due.due("20 CALLS that returned", 0, x.run(0, 0));
        Due.ran(x, "20 CALLS that returned", 0, 49, 0, 0, 30, 0, NOTHING);
    }

    /** "CALL n s: ACT n (0 .. 11)": its own number, too, till it is DEEP. */
    private static void callOfItself() {
        HireScopes x = new HireScopes();
        int n = Lines.of(x).call(0, 7).act;
        Due.due("run", 1, x.run(n, 0));
        Due.ran(x, "a CALL of itself", 1, 10, 1, 0, 10, 0, 0);
        Due.failure(x, "a CALL of itself", 0, 8, n, 0, NOTHING, NOTHING, NOTHING);
    }

    /** "of CALL that there is no SOUND ACT of that number": none, or one with a FAULT; wiped it is SOUND. */
    private static void callClosed() {
        HireScopes x = Due.house(1);
        int n = Lines.of(x).borrow(0, 0).call(11, 0).act;
        Due.due("no ACT 11", 1, x.run(n, 0));
        Due.failure(x, "no ACT 11", 0, 4, n, 1, NOTHING, NOTHING, NOTHING);
        Due.ran(x, "no ACT 11", 1, 2, 1, 1, 1, 0, 0);
        x.clean(60);
        for (int i = 1; i < 12; i++) {
            Lines.of(x).scope();
        }
        Due.due("ACT 11 has a FAULT", 1, x.run(n, 0));
        Due.failure(x, "ACT 11 has a FAULT", 0, 4, n, 1, NOTHING, NOTHING, NOTHING);
        x.clean(60);
        x.line(11, 16, 0, 0);
        Due.due("ACT 11 is SOUND", 0, x.run(n, 0));
        Due.ran(x, "ACT 11 is SOUND", 0, 3, 0, 1, 3, 0, NOTHING);
        x.clean(60);
        x.line(11, 17, 0, 0);
        Due.due("ACT 11 has another FAULT", 1, x.run(n, 0));
        x.clean(60);
        x.wipe(11);
        Due.due("ACT 11 has no LINES", 0, x.run(n, 0));
        Due.ran(x, "ACT 11 has no LINES", 0, 2, 0, 1, 2, 0, NOTHING);
    }

    /** "(behind DEEP)": a CALL of no SOUND ACT in the tenth is DEEP. */
    private static void deepBeforeClosed() {
        HireScopes x = new HireScopes();
        for (int n = 0; n < 9; n++) {
            Lines.of(x).call(n + 1, 0);
        }
        Lines.of(x).call(11, 0);
        Lines.of(x).scope();
        Due.due("no ACT 11", 1, x.run(0, 0));
        Due.failure(x, "no ACT 11", 0, 8, 9, 0, NOTHING, NOTHING, NOTHING);
        Due.due("within 8 it is CLOSED", 1, x.run(1, 0));
        Due.failure(x, "within 8 it is CLOSED", 0, 4, 9, 0, NOTHING, NOTHING, NOTHING);
        Lines.anew(x, 9).call(10, 0);
        Due.due("ACT 10 has a FAULT", 1, x.run(0, 0));
        Due.failure(x, "ACT 10 has a FAULT", 0, 8, 9, 0, NOTHING, NOTHING, NOTHING);
    }

    /** "its SLOT 0 gets what SLOT s has": NOTHING, what is over, what is OPEN; what the ACT does to it stays. */
    private static void slotZeroOfACall() {
        HireScopes x = Due.house(1);
        int n = Lines.of(x).borrow(0, 0).call(1, 7).act;
        int called = Lines.of(x).use(0).act;
        Due.due("NOTHING", 1, x.run(n, 0));
        Due.failure(x, "NOTHING", 0, 3, called, 0, NOTHING, NOTHING, NOTHING);
        x.clean(60);
        Lines.anew(x, n).borrow(7, 0).back(7).call(1, 7);
        Due.due("what is over", 1, x.run(n, 0));
        Due.failure(x, "what is over", 0, 3, called, 0, 0, NOTHING, NOTHING);
        x.clean(60);
        Lines.anew(x, n).borrow(7, 0).call(1, 7).use(7);
        Due.due("what is OPEN", 0, x.run(n, 0));
        x.clean(60);
        Lines.anew(x, called).back(0);
        Due.due("given back by the ACT", 1, x.run(n, 0));
        Due.failure(x, "given back by the ACT", 0, 3, n, 2, 0, NOTHING, NOTHING);
    }

    /** "SLOTS of its own (NOTHING at first)": a CALL sees none of its caller's, and changes none of them. */
    private static void slotsOfItsOwn() {
        for (int s = 1; s <= 7; s++) {
            HireScopes x = Due.house(3);
            int n = Lines.of(x).borrow(0, 0).borrow(s, 1).call(1, 0).use(s).use(0).act;
            int called = Lines.of(x).borrow(0, 2).tries().use(s).guard(3).end().lend(0, s).back(s).act;
            Due.due("SLOT " + s, 0, x.run(n, 0));
            Due.ran(x, "SLOT " + s, 0, 11, 1, 4, 2, 0, NOTHING);
            Due.failure(x, "SLOT " + s, 0, 3, called, 2, NOTHING, NOTHING, NOTHING);
        }
    }

    /** A SLOT that gets another LOAN: the first is OPEN till its SCOPE ends. */
    private static void aSlotThatGetsAnother() {
        HireScopes x = Due.house(2);
        int n = Lines.of(x).borrow(0, 0).borrow(0, 1).use(0).borrow(1, 0).act;
        Due.due("run", 1, x.run(n, 0));
        Due.failure(x, "PART 0 is LENT yet", 0, 2, n, 3, 0, NOTHING, NOTHING);
        Due.cleaning(x, "both come back", 1, 0);
    }

    /** A LINE that FAILS changes no SLOT. */
    private static void aSlotKeepsWhatItHadBehindAFailure() {
        int[][] failing = {{0, 59}, {1, 39}, {2, 59}, {0, 0}, {2, 0}};
        for (int[] each : failing) {
            HireScopes x = Due.house(1);
            int n = Lines.of(x).borrow(7, 0).tries().add(each[0], 7, each[1]).guard(0).end().use(7).act;
            Due.due("OP " + each[0], 0, x.run(n, 0));
            Due.ran(x, "OP " + each[0], 0, 5, 1, 1, 1, 0, NOTHING);
        }
        HireScopes x = Due.house(2);
        int n = Lines.of(x).borrow(0, 0).borrow(7, 1).lend(0, 1).tries().lend(0, 7).guard(2).end().use(7).act;
        Due.due("LEND", 0, x.run(n, 0));
        Due.ran(x, "LEND", 0, 7, 1, 3, 1, 0, NOTHING);
    }

    /** "FAIL may be of any KIND.": 0 to 11; without a PART. */
    private static void failOfEachKind() {
        HireScopes x = Due.house(1);
        int n = x.act();
        for (int k = 0; k <= 11; k++) {
            Lines.anew(x, n).borrow(0, 0).fail(k);
            Due.due("FAIL " + k, 1, x.run(n, 0));
            Due.ran(x, "FAIL " + k, 1, 2, 1, 1, 1, 0, 0);
            Due.failure(x, "FAIL " + k, 0, k, n, 1, NOTHING, NOTHING, NOTHING);
            x.clean(60);
        }
    }

    /** "LOOP n (0 .. 20)": so many turns, none of 0, each turn but the first a STEP. */
    private static void loopTurns() {
        HireScopes x = new HireScopes();
        int n = x.act();
        for (int turns = 0; turns <= 20; turns++) {
            Lines.anew(x, n).loop(turns).scope().end().end();
            Due.due("LOOP " + turns, 0, x.run(n, 0));
            Due.ran(x, "LOOP " + turns, 0, turns == 0 ? 1 : 2 * turns, 0, 0, turns + 1, 0, NOTHING);
        }
        Lines.anew(x, n).loop(20).end();
        Due.due("20 turns without LINES", 0, x.run(n, 0));
        Due.ran(x, "20 turns without LINES", 0, 20, 0, 0, 1, 0, NOTHING);
        Lines.anew(x, n).loop(3).loop(0).fail(0).end().scope().end().end();
        Due.due("LOOP 0 in a LOOP", 0, x.run(n, 0));
        Due.ran(x, "LOOP 0 in a LOOP", 0, 9, 0, 0, 4, 0, NOTHING);
        Lines.anew(x, n).loop(2).loop(3).scope().end().end().end();
        Due.due("a LOOP that is met again", 0, x.run(n, 0));
        Due.ran(x, "a LOOP that is met again", 0, 14, 0, 0, 7, 0, NOTHING);
    }

    /** BREAK leaves the latest LOOP alone, in whichever turn; RETURN leaves the ACT alone. */
    private static void returnAndBreak() {
        HireScopes x = new HireScopes();
        int n = Lines.of(x).loop(3).loop(20).breaks().scope().end().end().scope().end().end().scope().end().act;
        Due.due("BREAK", 0, x.run(n, 0));
        Due.ran(x, "BREAK", 0, 13, 0, 0, 5, 0, NOTHING);
        int called = Lines.of(x).loop(20).loop(20).returns().end().end().fail(0).act;
        Lines.anew(x, n).loop(2).call(called, 0).scope().end().end();
        Due.due("RETURN", 0, x.run(n, 0));
        Due.ran(x, "RETURN", 0, 12, 0, 0, 5, 0, NOTHING);
        Lines.anew(x, n).returns().fail(0);
        Due.due("RETURN of the RUN's ACT", 0, x.run(n, 0));
        Due.ran(x, "RETURN of the RUN's ACT", 0, 1, 0, 0, 1, 0, NOTHING);
    }
}
