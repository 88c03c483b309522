/** ==== 1 of the document and promises 1 to 7: the edges that its sentences name, each in a test of its own. */
public final class PartEdgesTest {
    private static final int NOTHING = HireScopes.NOTHING, UNKNOWN = HireScopes.UNKNOWN, OUTSIDE = HireScopes.OUTSIDE,
            FULL = HireScopes.FULL;
    private static final int MIN = Integer.MIN_VALUE, MAX = Integer.MAX_VALUE;

    public static void main(String[] args) {
        newObject();
        sortBounds();
        centsBounds();
        partsAtMost60();
        eachState();
        cleaningIsEmpty();
        cleaningIsFull();
        whatComesStandsLast();
        cleanBounds();
        customerBounds();
        plansAtMost30();
        planBounds();
        firstAndTwentiethUse();
        firstAndTwentiethGivingBack();
        usesOfThatPartAlone();
        countedFromWhenTold();
        aFailedUseIsAUse();
        allThatAreMetAtOnce();
        misuseIsNoUse();
        eachWayOfGivingBackCounts();
        plansGone();
        Due.end();
    }

    /** "No PARTS, no ACTS, no PLANS; THE CLEANING, THE LOG are empty; no RUN." */
    private static void newObject() {
        HireScopes x = new HireScopes();
        Due.due("new: state(0)", UNKNOWN, x.state(0));
        Due.due("new: plan(0, 1, 0)", UNKNOWN, x.plan(0, 1, 0));
        Due.due("new: line(0, 9, 0, 0)", UNKNOWN, x.line(0, 9, 0, 0));
        Due.due("new: wipe(0)", UNKNOWN, x.wipe(0));
        Due.due("new: fault(0, 0)", UNKNOWN, x.fault(0, 0));
        Due.due("new: run(0, 0)", UNKNOWN, x.run(0, 0));
        Due.due("new: plans(false)", 0, x.plans(false));
        Due.due("new: plans(true)", 0, x.plans(true));
        Due.due("new: cleaning(0)", NOTHING, x.cleaning(0));
        Due.due("new: clean(60)", 0, x.clean(60));
        Due.log(x, "new", 0, NOTHING, NOTHING, NOTHING);
        Due.ran(x, "new", 0, 0, 0, 0, 0, 0, NOTHING);
        Due.due("new: failure(0, 0)", UNKNOWN, x.failure(0, 0));
        Due.due("new: leaks()", 0, x.leaks());
        Due.due("new: leak(0, 0)", UNKNOWN, x.leak(0, 0));
        Due.due("new: trace(0, 0, 0)", UNKNOWN, x.trace(0, 0, 0));
        Due.due("new: giveBack(0)", UNKNOWN, x.giveBack(0));
        for (int c = 0; c <= 7; c++) {
            Due.due("new: DEPOSIT of " + c, 0, x.cents(c, 0));
            Due.due("new: CHARGED of " + c, 0, x.cents(c, 1));
        }
    }

    /** "a SORT (0 .. 39)"; and one that is refused takes no number. */
    private static void sortBounds() {
        HireScopes x = new HireScopes();
        int[] outside = {MIN, -1, 40, MAX};
        for (int sort : outside) {
            Due.due("part(" + sort + ", 0)", OUTSIDE, x.part(sort, 0));
        }
        Due.due("part(39, 1)", 0, x.part(39, 1));
        Due.due("part(0, 2)", 1, x.part(0, 2));
        Due.due("state(2)", UNKNOWN, x.state(2));
        int n = Lines.of(x).take(0, 0).take(1, 39).act;
        Due.due("TAKE of SORT 0 and 39", 0, x.run(n, 0));
        Due.cleaning(x, "SORT 0 and 39", 0, 1);
    }

    /** "cents (0 .. 100000)" */
    private static void centsBounds() {
        HireScopes x = new HireScopes();
        int[] outside = {MIN, -1, 100001, MAX};
        for (int cents : outside) {
            Due.due("part(0, " + cents + ")", OUTSIDE, x.part(0, cents));
        }
        Due.due("part(0, 0)", 0, x.part(0, 0));
        Due.due("part(0, 100000)", 1, x.part(0, 100000));
        x.run(Lines.of(x).hold(0, 0).act, 1);
        x.run(Lines.of(x).hold(0, 1).act, 2);
        Due.due("a DEPOSIT of 0", 0, x.cents(1, 0));
        Due.due("a DEPOSIT of 100000", 100000, x.cents(2, 0));
    }

    /** "PARTS (60 at most)"; what is OUTSIDE is so behind the 60th, too. */
    private static void partsAtMost60() {
        HireScopes x = new HireScopes();
        for (int p = 0; p < 59; p++) {
            x.part(0, 0);
        }
        Due.due("state(59) of 59 PARTS", UNKNOWN, x.state(59));
        Due.due("the 60th PART", 59, x.part(39, 100000));
        Due.due("state(59) of 60 PARTS", 0, x.state(59));
        Due.due("the 61st PART", FULL, x.part(0, 0));
        Due.due("the 61st PART again", FULL, x.part(39, 100000));
        Due.due("the 61st PART, its SORT OUTSIDE", OUTSIDE, x.part(-1, 0));
        Due.due("the 61st PART, its cents OUTSIDE", OUTSIDE, x.part(0, 100001));
        Due.due("state(60) behind a refused PART", UNKNOWN, x.state(60));
    }

    /** "A PART's STATE: 0 on its RACK (at first), 1 LENT, 2 in THE CLEANING, 3 LOST"; UNKNOWN of no such PART. */
    private static void eachState() {
        HireScopes x = Due.house(4);
        x.plan(3, 1, 1);
        x.run(Lines.of(x).hold(0, 1).borrow(1, 2).borrow(2, 3).act, 0);
        for (int p = 0; p < 4; p++) {
            Due.due("STATE of " + p, p, x.state(p));
        }
        int[] unknown = {MIN, -1, 4, 59, 60, MAX};
        for (int p : unknown) {
            Due.due("state(" + p + ")", UNKNOWN, x.state(p));
        }
        // what is LENT or LOST is not in THE CLEANING, so clean() brings none of it to its RACK
        Due.due("clean(60)", 1, x.clean(60));
        int[] behind = {0, 1, 0, 3};
        for (int p = 0; p < 4; p++) {
            Due.due("STATE of " + p + " behind clean(60)", behind[p], x.state(p));
        }
    }

    /** THE CLEANING that is empty: at first, and when all were taken to their RACKS. */
    private static void cleaningIsEmpty() {
        HireScopes x = Due.house(2);
        int n = Lines.of(x).borrow(0, 0).borrow(1, 1).act;
        for (int i = 0; i < 2; i++) {
            int[] places = {MIN, -1, 0, 1, 59, 60, MAX};
            for (int place : places) {
                Due.due("cleaning(" + place + ") of an empty one", NOTHING, x.cleaning(place));
            }
            Due.due("clean(0) of an empty one", 0, x.clean(0));
            Due.due("clean(1) of an empty one", 0, x.clean(1));
            Due.due("clean(60) of an empty one", 0, x.clean(60));
            x.run(n, 0);
            Due.cleaning(x, "two came", 1, 0);
            Due.due("cleaning(-1)", NOTHING, x.cleaning(-1));
            Due.due("clean(60)", 2, x.clean(60));
        }
    }

    /** THE CLEANING of all 60 PARTS, its places 0 to 59, and clean(n) of less and of more than there are. */
    private static void cleaningIsFull() {
        HireScopes x = Due.house(60);
        int n = Lines.of(x).loop(20).take(0, 0).take(1, 0).take(2, 0).end().act;
        x.run(n, 0);
        for (int place = 0; place < 60; place++) {
            Due.due("cleaning(" + place + ") of a full one", 59 - place, x.cleaning(place));
        }
        Due.due("cleaning(60) of a full one", NOTHING, x.cleaning(60));
        Due.due("clean(61) of a full one", OUTSIDE, x.clean(61));
        Due.due("clean(59) of 60", 59, x.clean(59));
        Due.cleaning(x, "behind clean(59)", 0);
        Due.due("STATE of the last one", 2, x.state(0));
        Due.due("STATE of the one before", 0, x.state(1));
        Due.due("clean(60) of one", 1, x.clean(60));
        Due.due("STATE of the last one", 0, x.state(0));
        Due.due("all once more", 0, x.run(n, 7));
        Due.due("clean(60) of 60", 60, x.clean(60));
        Due.due("cleaning(0)", NOTHING, x.cleaning(0));
    }

    /** "what comes stands last; clean() takes the first ones to their RACKS" */
    private static void whatComesStandsLast() {
        HireScopes x = Due.house(5);
        int first = Lines.of(x).borrow(0, 0).borrow(0, 1).borrow(0, 2).act;
        int second = Lines.of(x).borrow(0, 3).back(0).borrow(0, 2).back(0).act;
        x.run(first, 0);
        Due.cleaning(x, "by the ACT's end", 2, 1, 0);
        Due.due("clean(1)", 1, x.clean(1));
        Due.cleaning(x, "behind clean(1)", 1, 0);
        x.run(second, 0);
        Due.cleaning(x, "by BACK, behind those there", 1, 0, 3, 2);
        Due.due("clean(3)", 3, x.clean(3));
        Due.cleaning(x, "behind clean(3)", 2);
        int[] states = {0, 0, 2, 0, 0};
        for (int p = 0; p < 5; p++) {
            Due.due("STATE of " + p, states[p], x.state(p));
        }
    }

    /** "The first n (0 .. 60) of THE CLEANING" */
    private static void cleanBounds() {
        HireScopes x = Due.house(3);
        x.run(Lines.of(x).borrow(0, 0).borrow(0, 1).borrow(0, 2).act, 0);
        int[] outside = {MIN, -1, 61, MAX};
        for (int n : outside) {
            Due.due("clean(" + n + ")", OUTSIDE, x.clean(n));
            Due.cleaning(x, "behind clean(" + n + ")", 2, 1, 0);
        }
        Due.due("clean(0)", 0, x.clean(0));
        Due.cleaning(x, "behind clean(0)", 2, 1, 0);
        Due.due("clean(60)", 3, x.clean(60));
        Due.cleaning(x, "behind clean(60)");
    }

    /** "CUSTOMERS 0 .. 7" */
    private static void customerBounds() {
        HireScopes x = Due.house(2);
        int first = Lines.of(x).hold(0, 0).act;
        int last = Lines.of(x).hold(0, 1).act;
        int[] unknown = {MIN, -1, 8, MAX};
        for (int c : unknown) {
            Due.due("run for CUSTOMER " + c, UNKNOWN, x.run(first, c));
            Due.due("DEPOSIT of CUSTOMER " + c, UNKNOWN, x.cents(c, 0));
            Due.due("CHARGED of CUSTOMER " + c, UNKNOWN, x.cents(c, 1));
        }
        Due.due("no RUN", 0, x.leaks());
        Due.due("run for CUSTOMER 0", 0, x.run(first, 0));
        Due.due("run for CUSTOMER 7", 0, x.run(last, 7));
        Due.due("LEAK of CUSTOMER 0", 0, x.leak(0, 1));
        Due.due("LEAK of CUSTOMER 7", 7, x.leak(1, 1));
        for (int c = 0; c <= 7; c++) {
            Due.due("DEPOSIT of CUSTOMER " + c, c == 0 || c == 7 ? 10 : 0, x.cents(c, 0));
        }
        x.plan(0, 1, 1);
        x.plan(1, 1, 1);
        x.giveBack(0);
        x.giveBack(0);
        for (int c = 0; c <= 7; c++) {
            Due.due("CHARGED of CUSTOMER " + c, c == 0 || c == 7 ? 10 : 0, x.cents(c, 1));
        }
    }

    /** "PLANS (30 at most)"; one that was met makes room for one. */
    private static void plansAtMost30() {
        HireScopes x = Due.house(2);
        for (int i = 1; i <= 29; i++) {
            Due.due("PLAN " + i, i, x.plan(0, 20, 1));
        }
        Due.due("the 30th PLAN", 30, x.plan(1, 1, 0));
        Due.due("the 31st PLAN", FULL, x.plan(1, 1, 0));
        Due.due("the 31st PLAN, OUTSIDE too", OUTSIDE, x.plan(1, 0, 0));
        Due.due("the 31st PLAN, UNKNOWN and OUTSIDE too", UNKNOWN, x.plan(2, 0, 0));
        Due.due("plans(false)", 30, x.plans(false));
        Due.due("the 30th PLAN is met", 1, x.run(Lines.of(x).borrow(0, 1).use(0).act, 0));
        Due.due("one PLAN less", 29, x.plans(false));
        Due.due("room for one", 30, x.plan(1, 1, 0));
        Due.due("and no more", FULL, x.plan(1, 1, 0));
    }

    /** "at its n-th (1 .. 20) USE (what = 0), giving back (1)" */
    private static void planBounds() {
        HireScopes x = Due.house(1);
        int[] unknown = {MIN, -1, 1, 59, 60, MAX};
        for (int p : unknown) {
            Due.due("plan(" + p + ", 1, 0)", UNKNOWN, x.plan(p, 1, 0));
            Due.due("plan(" + p + ", 0, 2)", UNKNOWN, x.plan(p, 0, 2));
        }
        int[] outside = {MIN, -1, 0, 21, MAX};
        for (int n : outside) {
            Due.due("plan(0, " + n + ", 0)", OUTSIDE, x.plan(0, n, 0));
            Due.due("plan(0, " + n + ", 1)", OUTSIDE, x.plan(0, n, 1));
        }
        int[] whats = {MIN, -1, 2, MAX};
        for (int what : whats) {
            Due.due("plan(0, 1, " + what + ")", OUTSIDE, x.plan(0, 1, what));
        }
        Due.due("no PLAN yet", 0, x.plans(false));
        Due.due("plan(0, 1, 0)", 1, x.plan(0, 1, 0));
        Due.due("plan(0, 20, 0)", 2, x.plan(0, 20, 0));
        Due.due("plan(0, 1, 1)", 3, x.plan(0, 1, 1));
        Due.due("plan(0, 20, 1)", 4, x.plan(0, 20, 1));
    }

    /** "at its n-th (1 .. 20) USE": at the first, and at the 20th but not the 19th. */
    private static void firstAndTwentiethUse() {
        HireScopes x = Due.house(1);
        int one = Lines.of(x).borrow(0, 0).use(0).act;
        int many = Lines.of(x).borrow(0, 0).loop(19).use(0).end().act;
        x.plan(0, 1, 0);
        Due.due("the 1st USE", 1, x.run(one, 0));
        Due.failure(x, "the 1st USE", 0, 5, one, 1, 0, NOTHING, NOTHING);
        x.clean(60);
        x.plan(0, 20, 0);
        Due.due("19 USES", 0, x.run(many, 0));
        Due.due("the PLAN is there yet", 1, x.plans(false));
        x.clean(60);
        Due.due("the 20th USE", 1, x.run(one, 0));
        Due.due("the PLAN is gone", 0, x.plans(false));
        x.clean(60);
        Due.due("the 21st USE", 0, x.run(one, 0));
    }

    /** "at its n-th (1 .. 20) .. giving back (1)": at the first, and at the 20th but not the 19th. */
    private static void firstAndTwentiethGivingBack() {
        HireScopes x = Due.house(2);
        int n = Lines.of(x).borrow(0, 0).act;
        x.plan(0, 20, 1);
        for (int i = 1; i <= 19; i++) {
            Due.due("giving back " + i, 0, x.run(n, 0));
            x.clean(60);
        }
        Due.due("the PLAN is there yet", 1, x.plans(false));
        Due.due("the 20th giving back", 1, x.run(n, 0));
        Due.failure(x, "the 20th giving back", 0, 6, n, NOTHING, 0, NOTHING, NOTHING);
        Due.due("STATE", 3, x.state(0));
        Due.due("the PLAN is gone", 0, x.plans(false));
        x.plan(1, 1, 1);
        Due.due("the 1st giving back", 1, x.run(Lines.anew(x, n).borrow(0, 1).act, 0));
        Due.due("STATE", 3, x.state(1));
    }

    /** "of a PART, at its n-th USE, or giving back": not of another PART's, and no giving back for a USE. */
    private static void usesOfThatPartAlone() {
        HireScopes x = Due.house(2);
        x.plan(0, 2, 0);
        x.plan(0, 2, 1);
        int other = Lines.of(x).loop(3).borrow(0, 1).use(0).use(0).back(0).breaks().end().act;
        Due.due("another PART", 0, x.run(other, 0));
        int used = Lines.of(x).borrow(0, 0).use(0).act;
        Due.due("one USE and one giving back", 0, x.run(used, 0));
        Due.due("both PLANS are there", 2, x.plans(false));
        x.clean(60);
        Due.due("the second of each", 1, x.run(used, 0));
        Due.ran(x, "the second of each", 1, 2, 2);
        Due.due("both are gone", 0, x.plans(false));
    }

    /** "counted from when the PLAN was told on"; a USE by a SUB-LOAN and of a LONG LOAN is the PART's USE. */
    private static void countedFromWhenTold() {
        HireScopes x = Due.house(1);
        int n = Lines.of(x).borrow(0, 0).lend(0, 1).use(1).act;
        x.run(n, 0);
        x.clean(60);
        x.plan(0, 3, 0);
        Due.due("by a SUB-LOAN", 0, x.run(n, 0));
        x.clean(60);
        x.plan(0, 2, 0);
        Due.due("of a LONG LOAN", 0, x.run(Lines.of(x).hold(0, 0).use(0).act, 0));
        Due.due("plans(false)", 2, x.plans(false));
        x.giveBack(0);
        x.clean(60);
        Due.due("the 3rd and the 2nd", 1, x.run(n, 0));
        Due.ran(x, "two met at once are one FAILURE", 1, 3, 1);
        Due.due("plans(false)", 0, x.plans(false));
    }

    /** A USE that is PLANNED is no MISUSE: it counts for the other PLANS, too. */
    private static void aFailedUseIsAUse() {
        HireScopes x = Due.house(1);
        x.plan(0, 1, 0);
        x.plan(0, 2, 0);
        x.plan(0, 4, 0);
        int n = Lines.of(x).borrow(0, 0).loop(3).tries().use(0).guard(5).end().end().act;
        Due.due("three USES", 0, x.run(n, 0));
        Due.ran(x, "three USES", 0, 12, 2);
        Due.due("plans(false)", 1, x.plans(false));
    }

    /** "A PLAN that was met is gone (there is one PLAN less); of several that are met at once all are." */
    private static void allThatAreMetAtOnce() {
        for (int what = 0; what < 2; what++) {
            HireScopes x = Due.house(2);
            for (int i = 0; i < 29; i++) {
                x.plan(0, 1, what);
            }
            x.plan(1, 1, what);
            int n = Lines.of(x).borrow(0, 0).use(0).act;
            Due.due("29 at once", 1, x.run(n, 0));
            Due.ran(x, "29 at once", 1, 2, 1, 1, 1, 0, 0);
            Due.failure(x, "29 at once", 0, 5 + what, n, what == 0 ? 1 : NOTHING, 0, NOTHING, NOTHING);
            Due.due("the other PART's is left", 1, x.plans(false));
            Due.due("STATE", what == 0 ? 2 : 3, x.state(0));
        }
    }

    /** "(A USE that is MISUSE counts for none.)"; a BACK that is MISUSE gives nothing back. */
    private static void misuseIsNoUse() {
        HireScopes x = Due.house(1);
        x.plan(0, 1, 0);
        int n = Lines.of(x).borrow(0, 0).lend(0, 1).tries().use(0).guard(2).end().back(0).tries().use(0).guard(3).end()
                .tries().use(1).guard(3).end().tries().use(2).guard(3).end().act;
        Due.due("USES that are MISUSE", 0, x.run(n, 0));
        Due.ran(x, "USES that are MISUSE", 0, 15, 4);
        Due.due("the PLAN of USE is there", 1, x.plans(true));
        x.clean(60);
        x.plan(0, 2, 1);
        Lines.anew(x, n).borrow(0, 0).back(0).tries().back(0).guard(3).end().tries().back(0).guard(3).end();
        Due.due("BACKS that are MISUSE", 0, x.run(n, 0));
        Due.due("the PLAN of giving back is there", 1, x.plans(false));
        Due.due("STATE", 2, x.state(0));
        // BACK of SUB-LOANS is no giving back of the PART
        x.clean(60);
        Lines.anew(x, n).borrow(0, 0).loop(5).lend(0, 1).back(1).end().hold(2, 59);
        Due.due("BACKS of SUB-LOANS", 1, x.run(n, 0));
        Due.ran(x, "the 2nd giving back", 1, 17, 2, 6, 1, 0, 0);
        Due.failure(x, "the 2nd giving back", 1, 6, n, NOTHING, 0, NOTHING, 0);
    }

    /** By BACK, by a SCOPE's END, SPENT, and by giveBack(): the PART is LOST at the one that the PLAN tells. */
    private static void eachWayOfGivingBackCounts() {
        for (int n = 1; n <= 4; n++) {
            HireScopes x = Due.house(1);
            x.plan(0, n, 1);
            int back = Lines.of(x).borrow(0, 0).back(0).act;
            int ended = Lines.of(x).scope().borrow(0, 0).end().act;
            int spent = Lines.of(x).borrow(0, 0).loop(20).loop(20).end().end().act;
            int held = Lines.of(x).hold(0, 0).act;
            x.run(back, 0);
            x.clean(60);
            x.run(ended, 0);
            x.clean(60);
            x.run(spent, 0);
            x.clean(60);
            x.run(held, 0);
            Due.due("giveBack(0) of PLAN " + n, n == 4 ? 0 : UNKNOWN, x.giveBack(0));
            Due.log(x, "PLAN " + n, 0, 0, n - 1, 1);
            Due.due("STATE of PLAN " + n, 3, x.state(0));
            Due.due("CHARGED of PLAN " + n, 10, x.cents(0, 1));
            Due.due("plans(false) of PLAN " + n, 0, x.plans(false));
        }
    }

    /** "How many PLANS there are; none behind it, if gone." */
    private static void plansGone() {
        HireScopes x = Due.house(1);
        Due.due("none", 0, x.plans(true));
        x.plan(0, 1, 0);
        x.plan(0, 1, 1);
        Due.due("two", 2, x.plans(false));
        Due.due("two yet", 2, x.plans(true));
        Due.due("none behind it", 0, x.plans(false));
        Due.due("none FAILS", 0, x.run(Lines.of(x).borrow(0, 0).use(0).act, 0));
        for (int i = 1; i <= 30; i++) {
            Due.due("PLAN " + i + " behind it", i, x.plan(0, 1, 0));
        }
        Due.due("30", 30, x.plans(true));
        Due.due("the first behind that", 1, x.plan(0, 1, 0));
    }
}
