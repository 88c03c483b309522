/** ==== 2 of the document, of ACTS and FAULTS, and promises 8 to 11: the edges, each in a test of its own. */
public final class ActEdgesTest {
    private static final int NOTHING = HireScopes.NOTHING, UNKNOWN = HireScopes.UNKNOWN, OUTSIDE = HireScopes.OUTSIDE,
            STATE = HireScopes.STATE, FULL = HireScopes.FULL;
    private static final int MIN = Integer.MIN_VALUE, MAX = Integer.MAX_VALUE;

    // The largest a and b of each OP 0 to 16, as the document names them; NOTHING: it is not named.
    private static final int[] LARGEST_A = {7, 7, 7, 7, 7, 7, 7, 11, 11, -1, -1, 20, -1, -1, 11, -1, -1};
    private static final int[] LARGEST_B = {59, 39, 59, -1, -1, 7, 9, 7, -1, -1, -1, -1, -1, -1, -1, -1, -1};

    public static void main(String[] args) {
        actsAtMost12();
        linesAtMost40();
        wipes();
        unknownActs();
        faultBounds();
        noLines();
        opBounds();
        numberBounds();
        whatIsNotLookedAt();
        endWithoutBlock();
        guardAndFinishWithoutTry();
        guardsAndFinishOfItsLevel();
        within8Others();
        within8OthersInWays();
        breakWithinNoLoop();
        breakWithinLoop();
        blockWithoutEnd();
        theFirstLine();
        twoFaultsOfOneLine();
        notSoundIsNotRun();
        Due.end();
    }

    /** "ACTS (12 at most)" */
    private static void actsAtMost12() {
        HireScopes x = new HireScopes();
        for (int n = 0; n < 12; n++) {
            Due.due("fault of the ACT that is not yet", UNKNOWN, x.fault(n, 0));
            Due.due("act()", n, x.act());
        }
        Due.due("the 13th ACT", FULL, x.act());
        Due.due("the 13th ACT again", FULL, x.act());
        Due.due("line of ACT 11", 1, x.line(11, 9, 0, 0));
        Due.due("line of ACT 12", UNKNOWN, x.line(12, 9, 0, 0));
        x.wipe(11);
        Due.due("a wiped ACT is one yet", FULL, x.act());
    }

    /** "LINES (40 at most)"; behind a wipe there is room for 40 again. */
    private static void linesAtMost40() {
        HireScopes x = new HireScopes();
        x.act();
        x.act();
        for (int times = 0; times < 2; times++) {
            for (int i = 1; i <= 40; i++) {
                Due.due("LINE " + i, i, x.line(0, i == 1 ? 12 : 3, 0, 0));
            }
            Due.due("the 41st LINE", FULL, x.line(0, 16, 0, 0));
            Due.due("the 41st LINE, with no OP", FULL, x.line(0, MAX, MIN, MIN));
            Due.due("no END and no FAULT by what was refused", 5, x.fault(0, 0));
            Due.due("its LINE", 40, x.fault(0, 1));
            Due.due("wipe of 40 LINES", 40, x.wipe(0));
        }
        for (int i = 1; i <= 39; i++) {
            x.line(0, i == 39 ? 9 : 3, 0, 0);
        }
        Due.due("the 40th LINE", 40, x.line(0, 8, 0, 0));
        Due.due("the 41st LINE", FULL, x.line(0, 10, 0, 0));
        Due.due("40 LINES that are SOUND", 0, x.fault(0, 0));
        Due.due("a LINE of another ACT", 1, x.line(1, 9, 0, 0));
    }

    /** "ACT n has no LINES any more: how many it had." Of none, one and many; of that ACT alone. */
    private static void wipes() {
        HireScopes x = new HireScopes();
        x.act();
        x.act();
        x.line(1, 99, 0, 0);
        Due.due("wipe of none", 0, x.wipe(0));
        x.line(0, 13, 0, 0);
        Due.due("wipe of one", 1, x.wipe(0));
        Due.due("wipe of none again", 0, x.wipe(0));
        Due.due("the BLOCK is gone", 0, x.fault(0, 0));
        x.line(0, 14, 0, 0);
        Due.due("so there is no TRY", 2, x.fault(0, 0));
        x.wipe(0);
        Due.due("the FAULT is gone", 0, x.fault(0, 0));
        Due.due("its LINE, too", NOTHING, x.fault(0, 1));
        Due.due("a wiped ACT is SOUND", 0, x.run(0, 0));
        Due.due("the other ACT has its LINE", 1, x.fault(1, 0));
        Due.due("wipe of the other", 1, x.wipe(1));
    }

    /** "UNKNOWN (no such .. ACT ..)" of line, wipe, fault. */
    private static void unknownActs() {
        HireScopes x = new HireScopes();
        x.act();
        x.act();
        int[] unknown = {MIN, -1, 2, 11, 12, MAX};
        for (int n : unknown) {
            Due.due("line of ACT " + n, UNKNOWN, x.line(n, 9, 0, 0));
            Due.due("line of ACT " + n + ", with no OP", UNKNOWN, x.line(n, 17, -1, -1));
            Due.due("wipe of ACT " + n, UNKNOWN, x.wipe(n));
            Due.due("FAULT of ACT " + n, UNKNOWN, x.fault(n, 0));
            Due.due("FAULT's LINE of ACT " + n, UNKNOWN, x.fault(n, 1));
            Due.due("FAULT of ACT " + n + ", OUTSIDE too", UNKNOWN, x.fault(n, 2));
        }
        Due.due("ACT 0 has no LINES", 0, x.wipe(0));
        Due.due("ACT 1 has no LINES", 0, x.wipe(1));
    }

    /** fault: "what = 0 its number, 0 if it is SOUND, 1 the LINE, NOTHING"; OUTSIDE. */
    private static void faultBounds() {
        HireScopes x = new HireScopes();
        x.act();
        int[] outside = {MIN, -1, 2, MAX};
        for (int what : outside) {
            Due.due("fault(0, " + what + ")", OUTSIDE, x.fault(0, what));
        }
        fault(x, "no LINES", 0, NOTHING);
        x.line(0, 10, 0, 0);
        fault(x, "BREAK", 4, 0);
        for (int what : outside) {
            Due.due("fault(0, " + what + ")", OUTSIDE, x.fault(0, what));
        }
    }

    private static void fault(HireScopes x, String name, int number, int line) {
        Due.due(name + ": fault(0, 0)", number, x.fault(0, 0));
        Due.due(name + ": fault(0, 1)", line, x.fault(0, 1));
    }

    /** "An ACT without LINES" is SOUND: nothing of it does not fit. */
    private static void noLines() {
        HireScopes x = new HireScopes();
        x.act();
        fault(x, "without LINES", 0, NOTHING);
        Due.due("run", 0, x.run(0, 0));
        Due.ran(x, "without LINES", 0, 0, 0, 0, 1, 0, NOTHING);
    }

    /** "1 an OP that is not 0 .. 16" */
    private static void opBounds() {
        HireScopes x = new HireScopes();
        x.act();
        int[] none = {MIN, -1, 17, 18, MAX};
        for (int op : none) {
            Lines.anew(x, 0).use(0).add(op, 0, 0);
            fault(x, "OP " + op, 1, 1);
        }
        for (int op = 0; op <= 16; op++) {
            sound(x, op, 0, 0);
            fault(x, "OP " + op, 0, NOTHING);
        }
    }

    /** A SOUND ACT, if only these numbers are: the LINE is LINE 2. */
    private static void sound(HireScopes x, int op, int a, int b) {
        Lines lines = Lines.anew(x, 0).loop(1).tries().add(op, a, b);
        if (op >= 11 && op <= 13) {
            lines.end();
        }
        lines.ends(op == 16 ? 1 : 2);
    }

    /** "the bounds of each OP's a and b": the smallest and the largest, and the first beyond on either side. */
    private static void numberBounds() {
        for (int op = 0; op <= 16; op++) {
            HireScopes x = new HireScopes();
            x.act();
            int a = LARGEST_A[op], b = LARGEST_B[op];
            if (a != NOTHING) {
                int[] numbers = {0, a, -1, a + 1, MIN, MAX};
                for (int i = 0; i < numbers.length; i++) {
                    sound(x, op, numbers[i], 0);
                    fault(x, "OP " + op + ", a = " + numbers[i], i < 2 ? 0 : 1, i < 2 ? NOTHING : 2);
                }
            }
            if (b != NOTHING) {
                int[] numbers = {0, b, -1, b + 1, MIN, MAX};
                for (int i = 0; i < numbers.length; i++) {
                    sound(x, op, 0, numbers[i]);
                    fault(x, "OP " + op + ", b = " + numbers[i], i < 2 ? 0 : 1, i < 2 ? NOTHING : 2);
                }
                sound(x, op, a, b);
                fault(x, "OP " + op + ", the largest of both", 0, NOTHING);
                sound(x, op, a + 1, b + 1);
                fault(x, "OP " + op + ", both beyond", 1, 2);
            }
        }
    }

    /** "what is not named is not looked at" */
    private static void whatIsNotLookedAt() {
        int[] odds = {MIN, -1, 99, MAX};
        for (int op = 0; op <= 16; op++) {
            HireScopes x = new HireScopes();
            x.act();
            for (int odd : odds) {
                if (LARGEST_A[op] == NOTHING) {
                    sound(x, op, odd, 0);
                    fault(x, "OP " + op + ", a = " + odd, 0, NOTHING);
                }
                if (LARGEST_B[op] == NOTHING) {
                    sound(x, op, 0, odd);
                    fault(x, "OP " + op + ", b = " + odd, 0, NOTHING);
                }
            }
        }
    }

    /** "2 END .. without a BLOCK that they can belong to" */
    private static void endWithoutBlock() {
        HireScopes x = new HireScopes();
        x.act();
        Lines.anew(x, 0).end();
        fault(x, "END as the first LINE", 2, 0);
        Lines.anew(x, 0).use(0).end();
        fault(x, "END behind a LINE", 2, 1);
        for (int op = 11; op <= 13; op++) {
            Lines.anew(x, 0).add(op, 1, 0).end();
            fault(x, "OP " + op + " with its END", 0, NOTHING);
            Lines.anew(x, 0).add(op, 1, 0).end().end();
            fault(x, "one END more", 2, 2);
        }
        Lines.anew(x, 0).tries().guard(0).finish().end();
        fault(x, "one END of TRY, GUARD and FINISH", 0, NOTHING);
        Lines.anew(x, 0).tries().guard(0).finish().end().end();
        fault(x, "one more", 2, 4);
    }

    /** "(GUARD, FINISH: the latest begun is a TRY ..)" */
    private static void guardAndFinishWithoutTry() {
        for (int op = 14; op <= 15; op++) {
            HireScopes x = new HireScopes();
            x.act();
            Lines.anew(x, 0).add(op, 0, 0);
            fault(x, "as the first LINE", 2, 0);
            Lines.anew(x, 0).scope().add(op, 0, 0);
            fault(x, "in a SCOPE", 2, 1);
            Lines.anew(x, 0).loop(1).add(op, 0, 0);
            fault(x, "in a LOOP", 2, 1);
            Lines.anew(x, 0).tries().scope().add(op, 0, 0);
            fault(x, "in a SCOPE of a TRY", 2, 2);
            Lines.anew(x, 0).tries().loop(0).add(op, 0, 0);
            fault(x, "in a LOOP of a TRY", 2, 2);
            Lines.anew(x, 0).tries().end().add(op, 0, 0);
            fault(x, "behind a TRY", 2, 2);
            Lines.anew(x, 0).tries().scope().end().add(op, 0, 0).end();
            fault(x, "behind a SCOPE of a TRY", 0, NOTHING);
            Lines.anew(x, 0).scope().tries().add(op, 0, 0).end().end();
            fault(x, "in a TRY of a SCOPE", 0, NOTHING);
        }
    }

    /** "(.. a TRY, that has no FINISH yet)", "each but at the level of its TRY" */
    private static void guardsAndFinishOfItsLevel() {
        HireScopes x = new HireScopes();
        x.act();
        Lines.anew(x, 0).tries().finish().guard(0);
        fault(x, "GUARD behind FINISH", 2, 2);
        Lines.anew(x, 0).tries().finish().finish();
        fault(x, "FINISH behind FINISH", 2, 2);
        Lines.anew(x, 0).tries().guard(0).finish().guard(0);
        fault(x, "GUARD behind GUARD and FINISH", 2, 3);
        Lines.anew(x, 0).tries().times(37, 14, 11, 0).finish().end();
        fault(x, "37 GUARDS", 0, NOTHING);
        Lines.anew(x, 0).tries().finish().tries().guard(1).finish().end().end();
        fault(x, "a TRY in a LAST WAY has its own", 0, NOTHING);
        Lines.anew(x, 0).tries().finish().tries().finish().end().guard(0);
        fault(x, "behind that it is the outer one's LAST WAY", 2, 5);
        Lines.anew(x, 0).tries().tries().finish().end().guard(0).finish().end();
        fault(x, "behind an inner TRY the outer one has none yet", 0, NOTHING);
    }

    /** "3 a BLOCK within 8 others" */
    private static void within8Others() {
        for (int op = 11; op <= 13; op++) {
            HireScopes x = new HireScopes();
            x.act();
            Lines.anew(x, 0).times(8, op, 1, 0).ends(8);
            fault(x, "a BLOCK within 7", 0, NOTHING);
            Due.due("it runs", 0, x.run(0, 0));
            Due.ran(x, "a BLOCK within 7", 0, 8, 0, 0, op == 12 ? 9 : 1, 0, NOTHING);
            for (int last = 11; last <= 13; last++) {
                Lines.anew(x, 0).times(8, op, 1, 0).add(last, 1, 0).ends(9);
                fault(x, "a BLOCK within 8", 3, 8);
            }
            Lines.anew(x, 0).times(8, op, 1, 0).end().add(op, 1, 0).ends(8);
            fault(x, "the 9th BLOCK, but within 7", 0, NOTHING);
            Lines.anew(x, 0).times(8, op, 1, 0).uses(31, 0).add(op, 1, 0);
            fault(x, "the 40th LINE", 3, 39);
        }
        HireScopes x = new HireScopes();
        x.act();
        for (int i = 0; i < 13; i++) {
            x.line(0, 11 + i % 3, 0, 0);
            x.line(0, 16, 0, 0);
        }
        fault(x, "13 BLOCKS within none", 0, NOTHING);
    }

    /** A BLOCK in a WAY or a LAST WAY is within its TRY. */
    private static void within8OthersInWays() {
        for (int op = 14; op <= 15; op++) {
            HireScopes x = new HireScopes();
            x.act();
            Lines lines = Lines.anew(x, 0);
            for (int i = 0; i < 8; i++) {
                lines.tries().add(op, 0, 0);
            }
            fault(x, "8 TRIES in WAYS", 5, 16);
            lines.scope();
            fault(x, "a BLOCK in the WAY of the 8th", 3, 16);
        }
    }

    /** "4 BREAK within no LOOP of this ACT" */
    private static void breakWithinNoLoop() {
        HireScopes x = new HireScopes();
        x.act();
        x.act();
        Lines.anew(x, 0).breaks();
        fault(x, "within nothing", 4, 0);
        Lines.anew(x, 0).scope().breaks().end();
        fault(x, "within a SCOPE", 4, 1);
        Lines.anew(x, 0).tries().breaks().end();
        fault(x, "within a BODY", 4, 1);
        Lines.anew(x, 0).tries().guard(0).breaks().end();
        fault(x, "within a WAY", 4, 2);
        Lines.anew(x, 0).tries().finish().breaks().end();
        fault(x, "within a LAST WAY", 4, 2);
        Lines.anew(x, 0).loop(20).end().breaks();
        fault(x, "behind a LOOP", 4, 2);
        Lines.anew(x, 0).scope().loop(20).end().breaks().end();
        fault(x, "behind a LOOP of its SCOPE", 4, 3);
        Lines.anew(x, 1).loop(1).call(0, 0).end();
        Due.due("a LOOP of another ACT is none of this", 1, x.run(1, 0));
        Due.failure(x, "so the CALL is CLOSED", 0, 4, 1, 1, NOTHING, NOTHING, NOTHING);
    }

    /** "4 BREAK within no LOOP of this ACT": within one it is none, however deep, in each WAY of a TRY. */
    private static void breakWithinLoop() {
        HireScopes x = new HireScopes();
        x.act();
        Lines.anew(x, 0).loop(0).breaks().end();
        fault(x, "within a LOOP of no turns", 0, NOTHING);
        Lines.anew(x, 0).loop(1).scopes(7).breaks().ends(8);
        fault(x, "within 7 SCOPES of a LOOP", 0, NOTHING);
        Lines.anew(x, 0).loop(1).tries().breaks().guard(0).breaks().finish().breaks().end().breaks().end();
        fault(x, "within BODY, WAY, LAST WAY", 0, NOTHING);
        Lines.anew(x, 0).loop(1).loop(1).end().breaks().end();
        fault(x, "behind an inner LOOP", 0, NOTHING);
    }

    /** "5 behind the last LINE (its number is how many LINES there are): a BLOCK without END" */
    private static void blockWithoutEnd() {
        for (int op = 11; op <= 13; op++) {
            HireScopes x = new HireScopes();
            x.act();
            x.line(0, op, 1, 0);
            fault(x, "a BLOCK alone", 5, 1);
            x.line(0, op, 1, 0);
            fault(x, "two", 5, 2);
            x.line(0, 16, 0, 0);
            fault(x, "one of them ended", 5, 3);
            x.line(0, 16, 0, 0);
            fault(x, "both ended", 0, NOTHING);
            Lines.anew(x, 0).uses(39, 0).add(op, 1, 0);
            fault(x, "of 40 LINES", 5, 40);
        }
        HireScopes x = new HireScopes();
        x.act();
        Lines lines = Lines.anew(x, 0).tries().guard(0);
        fault(x, "a WAY", 5, 2);
        lines.finish();
        fault(x, "a LAST WAY", 5, 3);
        lines.end();
        fault(x, "ended", 0, NOTHING);
    }

    /** "FAULTS, the first LINE that has one"; what stands behind it changes nothing. */
    private static void theFirstLine() {
        HireScopes x = new HireScopes();
        x.act();
        Lines.anew(x, 0).use(0).breaks().add(17, 0, 0).end();
        fault(x, "4, then 1 and 2", 4, 1);
        Lines.anew(x, 0).end().add(17, 0, 0).breaks();
        fault(x, "2, then 1 and 4", 2, 0);
        Lines.anew(x, 0).scopes(9).breaks().add(-1, 0, 0);
        fault(x, "3, then 4 and 1", 3, 8);
        Lines.anew(x, 0).scope().use(8).end();
        fault(x, "1 in a BLOCK that has its END", 1, 1);
        Lines.anew(x, 0).scope().use(8);
        fault(x, "1 before 5", 1, 1);
        Lines.anew(x, 0).uses(39, 0).use(-1);
        fault(x, "in the last of 40 LINES", 1, 39);
    }

    /** Of two FAULTS of one LINE the first number: 1 before 2 and 3. */
    private static void twoFaultsOfOneLine() {
        HireScopes x = new HireScopes();
        x.act();
        Lines.anew(x, 0).guard(12);
        fault(x, "1 and 2 of GUARD", 1, 0);
        Lines.anew(x, 0).scope().guard(-1);
        fault(x, "1 and 2 of GUARD in a SCOPE", 1, 1);
        Lines.anew(x, 0).scopes(8).loop(21);
        fault(x, "1 and 3 of LOOP", 1, 8);
    }

    /** run: "STATE: it is not SOUND", of each FAULT; and SOUND again behind a wipe. */
    private static void notSoundIsNotRun() {
        HireScopes x = new HireScopes();
        x.act();
        int[][] faults = {{17}, {16}, {12, 12, 12, 12, 12, 12, 12, 12, 12}, {10}, {13}};
        for (int i = 0; i < faults.length; i++) {
            x.wipe(0);
            for (int op : faults[i]) {
                x.line(0, op, 0, 0);
            }
            Due.due("FAULT", i + 1, x.fault(0, 0));
            Due.due("run with FAULT " + (i + 1), STATE, x.run(0, 0));
            Due.due("run with FAULT " + (i + 1) + " for no CUSTOMER", UNKNOWN, x.run(0, 8));
        }
        Due.ran(x, "no RUN", 0, 0, 0, 0, 0, 0, NOTHING);
        x.line(0, 16, 0, 0);
        Due.due("the BLOCK is ended", 0, x.run(0, 0));
        Due.ran(x, "a RUN", 0, 1, 0, 0, 1, 0, NOTHING);
    }
}
