import java.util.Random;

/** Many runs of calls, made of seeds that are always the same, on HireScopes and on Model: they answer alike. */
public final class ModelTest {
    private static final int OBJECTS = 6000;

    private static HireScopes x;
    private static Model m;
    private static Random dice;
    private static int calls;
    private static String seedName;
    private static int sound, spentRuns, failedRuns, letGoes, causes, suppressed, torn;

    public static void main(String[] args) {
        for (int seed = 0; seed < OBJECTS && Due.wrongs() < 20; seed++) {
            playOne(seed);
        }
        System.out.println(sound + " runs, " + spentRuns + " spent, " + failedRuns + " failed, " + letGoes
                + " let go, " + causes + " causes, " + suppressed + " suppressed, " + torn + " torn");
        if (spentRuns < 100 || failedRuns < 100 || letGoes < 100 || causes < 100 || suppressed < 100 || torn < 100) {
            Due.due("the runs are of all sorts", 1, 0);
        }
        Due.end();
    }

    private static void due(String call, long want, long got) {
        calls++;
        Due.due("seed " + seedName + ": " + call, want, got);
    }

    private static void playOne(int seed) {
        dice = new Random(seed);
        x = new HireScopes();
        m = new Model();
        calls = 0;
        seedName = "" + seed;
        int parts = 1 + dice.nextInt(seed % 5 == 0 ? 60 : 12);
        int sorts = 1 + dice.nextInt(4);
        for (int p = 0; p < parts; p++) {
            int sort = dice.nextInt(sorts);
            int cents = dice.nextInt(1000);
            due("part", m.part(sort, cents), x.part(sort, cents));
        }
        int acts = 1 + dice.nextInt(4);
        for (int n = 0; n < acts; n++) {
            due("act", m.act(), x.act());
            write(n, acts, parts, sorts);
        }
        while (calls < 512 && Due.wrongs() < 20) {
            playPart(acts, parts, sorts);
        }
    }

    private static void playPart(int acts, int parts, int sorts) {
        int n = dice.nextInt(acts);
        switch (dice.nextInt(8)) {
            case 0:
                due("wipe", m.wipe(n), x.wipe(n));
                write(n, acts, parts, sorts);
                break;
            case 1:
                int many = dice.nextInt(2) == 0 ? 60 : dice.nextInt(8);
                due("clean", m.clean(many), x.clean(many));
                break;
            case 2:
                int leak = dice.nextInt(4) - 1;
                due("giveBack", m.giveBack(leak), x.giveBack(leak));
                break;
            case 3:
                boolean gone = dice.nextInt(6) == 0;
                due("plans", m.plans(gone), x.plans(gone));
                break;
            case 4:
                oddCall();
                break;
            default:
                if (dice.nextInt(3) > 0) {
                    due("clean", m.clean(60), x.clean(60));
                }
                for (int i = dice.nextInt(6); i > 0; i--) {
                    int p = dice.nextInt(parts);
                    int count = 1 + dice.nextInt(3);
                    int what = dice.nextInt(2);
                    due("plan", m.plan(p, count, what), x.plan(p, count, what));
                }
                runOne(n);
                break;
        }
    }

    private static void runOne(int n) {
        int c = dice.nextInt(3);
        int end = m.run(n, c);
        due("run(" + n + ", " + c + ")", end, x.run(n, c));
        if (end < 0) {
            return;
        }
        sound++;
        spentRuns += end == 2 ? 1 : 0;
        failedRuns += end == 1 ? 1 : 0;
        letGoes += m.ran(5);
        for (int what = 0; what < 7; what++) {
            due("ran(" + what + ")", m.ran(what), x.ran(what));
        }
        for (int i = 0; i <= m.ran(2) && calls < 480; i++) {
            causes += m.failure(i, 4) >= 0 ? 1 : 0;
            suppressed += m.failure(i, 5) >= 0 ? 1 : 0;
            torn += m.failure(i, 0) == 6 ? 1 : 0;
            for (int what = 0; what < 6; what++) {
                due("failure(" + i + ", " + what + ")", m.failure(i, what), x.failure(i, what));
            }
        }
        look();
    }

    private static void look() {
        int p = dice.nextInt(12);
        due("state(" + p + ")", m.state(p), x.state(p));
        int place = dice.nextInt(12);
        due("cleaning(" + place + ")", m.cleaning(place), x.cleaning(place));
        due("leaks()", m.leaks(), x.leaks());
        for (int i = 0; i < m.leaks() && i < 3; i++) {
            int leak = dice.nextInt(m.leaks());
            for (int what = 0; what < 3; what++) {
                due("leak(" + leak + ", " + what + ")", m.leak(leak, what), x.leak(leak, what));
            }
            int k = dice.nextInt(m.leak(leak, 2) + 1);
            due("trace(" + leak + ", " + k + ", 0)", m.trace(leak, k, 0), x.trace(leak, k, 0));
            due("trace(" + leak + ", " + k + ", 1)", m.trace(leak, k, 1), x.trace(leak, k, 1));
        }
        int c = dice.nextInt(3);
        due("cents(" + c + ", 0)", m.cents(c, 0), x.cents(c, 0));
        due("cents(" + c + ", 1)", m.cents(c, 1), x.cents(c, 1));
        for (int k = 0; k < 4; k++) {
            int i = dice.nextInt(k == 0 ? 64 : 6);
            int what = dice.nextInt(3);
            due("log(" + i + ", " + what + ")", m.log(i, what), x.log(i, what));
        }
        due("plans(false)", m.plans(false), x.plans(false));
    }

    private static int odd() {
        int[] odds = {Integer.MIN_VALUE, -1, 0, 1, 2, 3, 5, 6, 7, 8, 11, 12, 20, 21, 30, 39, 40, 59, 60, 61, 100000,
            100001, Integer.MAX_VALUE};
        return odds[dice.nextInt(odds.length)];
    }

    private static void oddCall() {
        int i = odd(), j = odd(), k = odd();
        due("state " + i, m.state(i), x.state(i));
        due("clean " + i, m.clean(i), x.clean(i));
        due("cleaning " + i, m.cleaning(i), x.cleaning(i));
        due("plan " + i + " " + j + " " + k, m.plan(i, j, k), x.plan(i, j, k));
        due("fault " + i + " " + j, m.fault(i, j), x.fault(i, j));
        due("run " + i + " " + j, m.run(i, j), x.run(i, j));
        due("ran " + i, m.ran(i), x.ran(i));
        due("failure " + i + " " + j, m.failure(i, j), x.failure(i, j));
        due("leak " + i + " " + j, m.leak(i, j), x.leak(i, j));
        due("trace " + i + " " + j + " " + k, m.trace(i, j, k), x.trace(i, j, k));
        due("cents " + i + " " + j, m.cents(i, j), x.cents(i, j));
        due("log " + i + " " + j, m.log(i, j), x.log(i, j));
    }

    /** Writes an ACT: mostly a SOUND one, at times with a LINE of any numbers. */
    private static void write(int n, int acts, int parts, int sorts) {
        int[] room = {3 + dice.nextInt(37)};
        if (room[0] > 10) {
            for (int s = 0; s < 3; s++) {
                room[0]--;
                line(n, dice.nextInt(8) == 0 ? 2 : 0, s, Math.min(59, n * 3 + s));
            }
        }
        for (int i = dice.nextInt(4); i > 0 && room[0] > 5; i--) {
            writeGuarded(n, acts, parts, sorts, room);
        }
        if (dice.nextInt(3) == 0) {
            writeLines(n, acts, parts, sorts, 0, false, room);
        }
        if (dice.nextInt(8) == 0) {
            line(n, odd(), odd(), odd());
        }
        if (dice.nextInt(8) == 0) {
            line(n, dice.nextInt(17), dice.nextInt(13), dice.nextInt(13));
        }
        due("fault(" + n + ", 0)", m.fault(n, 0), x.fault(n, 0));
        due("fault(" + n + ", 1)", m.fault(n, 1), x.fault(n, 1));
    }

    private static void line(int n, int op, int a, int b) {
        due("line(" + n + ", " + op + ", " + a + ", " + b + ")", m.line(n, op, a, b), x.line(n, op, a, b));
    }

    private static void writeLines(int n, int acts, int parts, int sorts, int level, boolean inLoop, int[] room) {
        int many = 1 + dice.nextInt(level == 0 ? 14 : 5);
        for (int i = 0; i < many && room[0] > 0; i++) {
            int sort = dice.nextInt(30);
            if (sort < 12 && room[0] >= 2 && level < 8) {
                writeBlock(n, acts, parts, sorts, level, inLoop, room, sort);
            } else {
                room[0]--;
                writeLine(n, acts, parts, sorts, inLoop, sort);
            }
        }
    }

    /** A LOOP of a TRY that guards all. */
    private static void writeGuarded(int n, int acts, int parts, int sorts, int[] room) {
        room[0] -= 5;
        line(n, 11, 1 + dice.nextInt(dice.nextInt(2) == 0 ? 20 : 3), 0);
        line(n, 13, 0, 0);
        writeLines(n, acts, parts, sorts, 2, true, room);
        line(n, 14, dice.nextInt(4) == 0 ? 1 : 0, 0);
        if (room[0] > 0 && dice.nextInt(3) == 0) {
            writeLines(n, acts, parts, sorts, 2, true, room);
        }
        if (dice.nextInt(2) == 0) {
            line(n, 15, 0, 0);
            writeLines(n, acts, parts, sorts, 2, true, room);
        }
        line(n, 16, 0, 0);
        line(n, 16, 0, 0);
    }

    private static void writeBlock(int n, int acts, int parts, int sorts, int level, boolean inLoop, int[] room,
            int sort) {
        room[0] -= 2;
        if (sort < 3) {
            line(n, 11, dice.nextInt(dice.nextInt(5) == 0 ? 21 : 4), 0);
            writeLines(n, acts, parts, sorts, level + 1, true, room);
        } else if (sort < 5) {
            line(n, 12, odd(), odd());
            writeLines(n, acts, parts, sorts, level + 1, inLoop, room);
        } else {
            line(n, 13, odd(), odd());
            writeLines(n, acts, parts, sorts, level + 1, inLoop, room);
            while (room[0] > 0 && dice.nextInt(8) < 5) {
                room[0]--;
                line(n, 14, dice.nextInt(3) > 0 ? 0 : dice.nextInt(12), 0);
                writeLines(n, acts, parts, sorts, level + 1, inLoop, room);
            }
            if (room[0] > 0 && dice.nextInt(2) == 0) {
                room[0]--;
                line(n, 15, 0, 0);
                writeLines(n, acts, parts, sorts, level + 1, inLoop, room);
            }
        }
        line(n, 16, odd(), odd());
    }

    private static void writeLine(int n, int acts, int parts, int sorts, boolean inLoop, int sort) {
        int s = dice.nextInt(3);
        int p = Math.min(59, dice.nextInt(parts + 1));
        switch (sort) {
            case 0: case 1: case 12: line(n, 0, s, p); break;
            case 2: case 13: case 14: line(n, 1, s, dice.nextInt(sorts + (dice.nextInt(4) == 0 ? 1 : 0))); break;
            case 3: case 15: line(n, 2, s, p); break;
            case 4: case 16: case 17: case 18: line(n, 3, s, odd()); break;
            case 5: case 19: line(n, 4, s, odd()); break;
            case 6: case 20: case 21: line(n, 5, s, dice.nextInt(6)); break;
            case 7: case 22: case 23: line(n, 6, s, dice.nextInt(dice.nextInt(4) == 0 ? 10 : 2)); break;
            case 8: case 24: case 25: line(n, 7, Math.min(11, dice.nextInt(acts + 1)), s); break;
            case 26: line(n, 8, dice.nextInt(12), odd()); break;
            case 27: line(n, 9, odd(), odd()); break;
            default: line(n, inLoop ? 10 : 3, inLoop ? odd() : s, odd()); break;
        }
    }
}
