/** Promises 4 to 14: pin, key, machine, sets, slack, files, turn, cut, uses, snaps, opening. */
public final class LockAndKeysTest {
    private static final Check CHECK = new Check("LockAndKeysTest");
    private static final int LEAST = Integer.MIN_VALUE;
    private static final int MOST = Integer.MAX_VALUE;

    public static void main(String[] args) {
        pin();
        key();
        machine();
        sets();
        slack();
        files();
        turn();
        cutByKinds();
        cutIsHeld();
        cutRefused();
        uses();
        usesRefused();
        snaps();
        opening();
        CHECK.end();
    }

    private static void pin() {
        Counted x = Check.told("l0001509899;");
        CHECK.pins("pin", x, 0, 1, 50, 98, 99);
        for (int tooth : new int[] {-1, 5, LEAST, MOST}) {
            CHECK.refused("pin(" + tooth + ")", x, -1, () -> x.pin(tooth));
        }
    }

    private static void key() {
        Counted x = Check.told("l5050505050;k5149525048;k5347505053;mm0;c00;", "x1;");
        int[][] due = {{51, 49, 52, 50, 48, -9, 0, 1, 6, 2}, {53, 47, 50, 50, 53, -9, 1, 0, 9, 0},
            {51, 49, 52, 50, 48, 0, 0, 1, 6, 2}};
        for (int key = 0; key < 3; key++) {
            for (int what = 0; what < 10; what++) {
                CHECK.due("key(" + key + ", " + what + ")", x.key(key, what), due[key][what]);
            }
        }
        for (int what : new int[] {-1, 10, LEAST, MOST}) {
            CHECK.refused("key(0, " + what + ")", x, -2, () -> x.key(0, what));
            CHECK.refused("key(3, " + what + ")", x, -1, () -> x.key(3, what));
        }
        for (int key : new int[] {-1, 3, LEAST, MOST}) {
            CHECK.refused("key(" + key + ", 0)", x, -1, () -> x.key(key, 0));
        }
        x.slack(1);
        CHECK.due("OPENS with less SLACK", x.key(0, 7), 0);
        for (int tooth = 0; tooth < 5; tooth++) {
            Counted one = Check.told("k5151515151;");
            one.files(0, tooth, 47);
            CHECK.due("WORST at " + tooth, one.key(0, 9), tooth);
        }
        CHECK.due("WORST at the last", Check.told("k5050505051;").key(0, 9), 4);
        CHECK.due("WORST of none", Check.told("k5050505050;").key(0, 9), 0);
        CHECK.due("WIGGLE, most", Check.told("l0000000000;k9999999999;").key(0, 8), 495);
    }

    private static void machine() {
        Counted x = Check.told("mg7;mm0;");
        CHECK.due("machine(0, 0)", x.machine(0, 0), 5);
        CHECK.due("machine(0, 1)", x.machine(0, 1), 7);
        CHECK.due("machine(1, 0)", x.machine(1, 0), 0);
        CHECK.due("machine(1, 1)", x.machine(1, 1), 0);
        for (int wrong : new int[] {-1, 2, LEAST, MOST}) {
            CHECK.refused("machine(" + wrong + ", 0)", x, -1, () -> x.machine(wrong, 0));
            CHECK.refused("machine(0, " + wrong + ")", x, -2, () -> x.machine(0, wrong));
            CHECK.refused("machine(2, " + wrong + ")", x, -1, () -> x.machine(2, wrong));
        }
    }

    private static void sets() {
        Counted x = new Counted();
        CHECK.due("sets(1, 0)", x.sets(1, 0), 50);
        CHECK.due("sets(1, 99)", x.sets(1, 99), 0);
        CHECK.due("sets(4, 7)", x.sets(4, 7), 50);
        CHECK.pins("sets", x, 50, 99, 50, 50, 7);
        for (int tooth : new int[] {-1, 5, LEAST, MOST}) {
            CHECK.refused("sets(" + tooth + ", -1)", x, -1, () -> x.sets(tooth, -1));
        }
        CHECK.refused("sets(0, -1)", x, -4, () -> x.sets(0, -1));
        CHECK.refused("sets(0, least)", x, -4, () -> x.sets(0, LEAST));
        CHECK.refused("sets(0, 100)", x, -6, () -> x.sets(0, 100));
        CHECK.refused("sets(0, most)", x, -6, () -> x.sets(0, MOST));
    }

    private static void slack() {
        Counted x = new Counted();
        CHECK.due("slack(9)", x.slack(9), 2);
        CHECK.due("slack(0)", x.slack(0), 9);
        CHECK.refused("slack(-1)", x, -4, () -> x.slack(-1));
        CHECK.refused("slack(10)", x, -6, () -> x.slack(10));
        CHECK.refused("slack(least)", x, -4, () -> x.slack(LEAST));
        CHECK.refused("slack(most)", x, -6, () -> x.slack(MOST));
        CHECK.due("slack stays", x.slack(1), 0);
    }

    private static void files() {
        Counted x = Check.told("k1020304050;k5050505050;x0;");
        CHECK.due("files(0, 2, 99)", x.files(0, 2, 99), 30);
        CHECK.due("files(0, 2, 0)", x.files(0, 2, 0), 99);
        CHECK.heights("files", x, 0, 10, 20, 0, 40, 50);
        CHECK.heights("files, another", x, 1, 50, 50, 50, 50, 50);
        for (int wrong : new int[] {-1, 5, LEAST, MOST}) {
            CHECK.refused("files(" + wrong + ", 0, 100)", x, -1, () -> x.files(wrong, 0, 100));
            CHECK.refused("files(0, " + wrong + ", -1)", x, -1, () -> x.files(0, wrong, -1));
        }
        CHECK.refused("files(0, 0, -1)", x, -4, () -> x.files(0, 0, -1));
        CHECK.refused("files(0, 0, 100)", x, -6, () -> x.files(0, 0, 100));
    }

    private static void turn() {
        Counted x = Check.told("mr4;mm0;");
        CHECK.due("turn(0, 5, 9)", x.turn(0, 5, 9), 34);
        CHECK.due("turn(0, 0, 0)", x.turn(0, 0, 0), 59);
        CHECK.due("KIND", x.machine(0, 0), 0);
        CHECK.due("FIGURE", x.machine(0, 1), 0);
        CHECK.due("turn(1, 2, 3)", x.turn(1, 2, 3), 0);
        CHECK.due("KIND", x.machine(1, 0), 2);
        CHECK.due("FIGURE", x.machine(1, 1), 3);
        for (int machine : new int[] {-1, 2, LEAST, MOST}) {
            CHECK.refused("turn(" + machine + ", 6, -1)", x, -1, () -> x.turn(machine, 6, -1));
        }
        for (int kind : new int[] {-1, 6, LEAST, MOST}) {
            CHECK.refused("turn(0, " + kind + ", -1)", x, -2, () -> x.turn(0, kind, -1));
            CHECK.refused("turn(0, " + kind + ", 10)", x, -2, () -> x.turn(0, kind, 10));
        }
        CHECK.refused("turn(0, 1, -1)", x, -4, () -> x.turn(0, 1, -1));
        CHECK.refused("turn(0, 1, 10)", x, -6, () -> x.turn(0, 1, 10));
    }

    private static void cutByKinds() {
        Counted x = Check.told("k4142434445;mm3;");
        int[][] due = {{38, 39, 40, 41, 42}, {44, 45, 46, 47, 48}, {38, 42, 40, 44, 42}, {40, 40, 40, 40, 40},
            {44, 46, 48, 50, 52}, {40, 40, 40, 40, 40}};
        for (int kind = 0; kind < 6; kind++) {
            x.turn(0, kind, 3);
            CHECK.due("cut by KIND " + kind, x.cut(0, 0), kind + 1);
            CHECK.heights("cut by KIND " + kind, x, kind + 1, due[kind]);
            CHECK.due("FROM", x.key(kind + 1, 5), 0);
            CHECK.due("SNAPPED", x.key(kind + 1, 6), 0);
        }
        CHECK.heights("what was cut from stays", x, 0, 41, 42, 43, 44, 45);
        CHECK.due("a copy of a copy", x.cut(5, 0), 7);
        CHECK.due("FROM", x.key(7, 5), 5);
        Counted halves = Check.told("k4950515556;mr4;mg4;c00;c01;");
        CHECK.heights("ROUND, of two the lower", halves, 1, 40, 50, 50, 50, 50);
        CHECK.heights("GOOD, of two the lower", halves, 2, 50, 50, 50, 50, 60);
    }

    private static void cutIsHeld() {
        Counted x = Check.told("k0004559699;mm3;");
        int[][] due = {{0, 1, 52, 93, 96}, {3, 7, 58, 99, 99}, {0, 4, 52, 96, 96}, {0, 0, 50, 90, 99},
            {3, 8, 60, 99, 99}, {0, 0, 50, 99, 99}};
        for (int kind = 0; kind < 6; kind++) {
            x.turn(0, kind, 3);
            int copy = x.cut(0, 0);
            CHECK.heights("held, KIND " + kind, x, copy, due[kind]);
        }
        Counted high = Check.told("k9999999999;mr0;mr4;mr9;mw9;c00;c01;c02;c03;");
        CHECK.heights("ROUND 0", high, 1, 99, 99, 99, 99, 99);
        CHECK.heights("ROUND 4", high, 2, 90, 90, 90, 90, 90);
        CHECK.heights("ROUND 9", high, 3, 90, 90, 90, 90, 90);
        CHECK.heights("WOBBLY 9", high, 4, 90, 99, 90, 99, 90);
    }

    private static void cutRefused() {
        Counted x = Check.told("k5050505050;k5050505050;mm0;", "x1;");
        for (int wrong : new int[] {-1, 2, LEAST, MOST}) {
            CHECK.refused("cut(" + wrong + ", 0)", x, -1, () -> x.cut(wrong, 0));
            CHECK.refused("cut(1, " + wrong + ")", x, -1, () -> x.cut(1, wrong));
        }
        CHECK.refused("cut(1, 0), SNAPPED", x, -3, () -> x.cut(1, 0));
        for (int copy = 2; copy < 10; copy++) {
            CHECK.due("cut(0, 0)", x.cut(0, 0), copy);
        }
        CHECK.refused("cut(1, 0), SNAPPED, no room", x, -3, () -> x.cut(1, 0));
        CHECK.refused("cut(0, 0), no room", x, -6, () -> x.cut(0, 0));
        CHECK.refused("cut(0, 1), no room", x, -1, () -> x.cut(0, 1));
    }

    private static void uses() {
        Counted x = Check.told("l5001020304;k5002050450;k5050505050;s1;");
        CHECK.due("uses(0, 9)", x.uses(0, 9), 0);
        CHECK.heights("9 times", x, 0, 50, 2, 5, 4, 50);
        CHECK.pins("9 times", x, 50, 1, 2, 3, 4);
        CHECK.due("uses(0, 19)", x.uses(0, 19), 0);
        CHECK.heights("19 times", x, 0, 49, 1, 4, 3, 49);
        CHECK.pins("19 times", x, 50, 1, 2, 3, 4);
        CHECK.due("uses(0, 99)", x.uses(0, 99), 0);
        CHECK.heights("99 times", x, 0, 40, 0, 0, 0, 40);
        CHECK.pins("99 times", x, 46, 0, 0, 0, 0);
        CHECK.heights("another", x, 1, 50, 50, 50, 50, 50);
        CHECK.due("USES", x.count(2), 127);
        Counted opens = Check.told("k5050505050;s1;");
        CHECK.due("uses(0, 20)", opens.uses(0, 20), 1);
        CHECK.due("uses(0, 20) again", opens.uses(0, 20), 0);
        CHECK.due("uses(0, 1)", opens.uses(0, 1), 0);
    }

    private static void usesRefused() {
        Counted x = Check.told("k5050505050;k5050505050;", "x1;");
        for (int key : new int[] {-1, 2, LEAST, MOST}) {
            CHECK.refused("uses(" + key + ", 0)", x, -1, () -> x.uses(key, 0));
        }
        for (int n : new int[] {0, -1, LEAST}) {
            CHECK.refused("uses(1, " + n + ")", x, -4, () -> x.uses(1, n));
        }
        for (int n : new int[] {100, MOST}) {
            CHECK.refused("uses(1, " + n + ")", x, -6, () -> x.uses(1, n));
        }
        CHECK.refused("uses(1, 99)", x, -3, () -> x.uses(1, 99));
        for (int i = 0; i < 100; i++) {
            x.uses(0, 99);
        }
        CHECK.due("uses(0, 98)", x.uses(0, 98), 1);
        CHECK.due("USES", x.count(2), 9998);
        CHECK.refused("uses(0, 2), USES above 9999", x, -6, () -> x.uses(0, 2));
        CHECK.refused("uses(1, 2), USES above 9999", x, -6, () -> x.uses(1, 2));
        CHECK.due("uses(0, 1)", x.uses(0, 1), 1);
        CHECK.due("USES", x.count(2), 9999);
    }

    private static void snaps() {
        Counted x = Check.told("k5050505050;k5050505050;k5050505050;");
        CHECK.due("snaps(1)", x.snaps(1), 2);
        CHECK.due("SNAPPED", x.key(1, 6), 1);
        CHECK.due("OPENS", x.key(1, 7), 0);
        CHECK.due("SNAPPED ones", x.count(4), 2);
        CHECK.refused("snaps(1) again", x, -3, () -> x.snaps(1));
        CHECK.due("snaps(2)", x.snaps(2), 1);
        CHECK.due("snaps(0)", x.snaps(0), 0);
        for (int key : new int[] {-1, 3, LEAST, MOST}) {
            CHECK.refused("snaps(" + key + ")", x, -1, () -> x.snaps(key));
        }
    }

    private static void opening() {
        CHECK.due("opening(), no KEYS", new Counted().opening(), 0);
        Counted x = Check.told("k5248505050;k5347505050;k5050505052;k5050505053;", "k4850505050;x4;");
        CHECK.due("opening()", x.opening(), 5);
        x.slack(3);
        CHECK.due("opening(), SLACK 3", x.opening(), 15);
        x.slack(0);
        CHECK.due("opening(), SLACK 0", x.opening(), 0);
        x.files(3, 4, 50);
        CHECK.due("opening(), one filed", x.opening(), 8);
    }
}
