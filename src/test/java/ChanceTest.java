/** Promises 30, 31 and 36: slip, two, lots. */
public final class ChanceTest {
    private static final Check CHECK = new Check("ChanceTest");
    private static final int LEAST = Integer.MIN_VALUE;
    private static final int MOST = Integer.MAX_VALUE;
    private static final long REFUSED = 4000000000000000000L;
    private static final String KEY = "k5050505050;";

    public static void main(String[] args) {
        slip();
        slipByKinds();
        slipRefused();
        two();
        twoRefused();
        lots();
        lotsRefused();
        CHECK.end();
    }

    private static void slip() {
        Counted x = Check.told(KEY + "mm1;mm0;");
        slipIs("both OPEN", x, 0, 1, 5, 1, 1);
        slipIs("without a slip", x, 0, 2, 2, 1, 4);
        slipIs("without a slip", x, 0, 2, 3, 4, 9);
        slipIs("without a slip", x, 0, 2, 20, 361, 400);
        slipIs("never", x, 0, 3, 4, 0, 1);
        slipIs("two slips at most", x, 1, 3, 2, 7, 8);
        slipIs("two slips at most", x, 1, 3, 4, 63, 64);
        slipIs("two slips at most", x, 1, 4, 10, 9963, 10000);
        slipIs("two slips at most, least terms", x, 1, 6, 2, 11, 32);
        slipIs("two slips at most, the greatest", x, 1, 6, 20, 6385729, 6400000);
        slipIs("no copy", x, 0, 0, 7, 1, 1);
        x.snaps(0);
        slipIs("no copy of a SNAPPED one", x, 0, 0, 7, 0, 1);
        slipIs("a copy of a SNAPPED one", x, 0, 1, 7, 1, 1);
        slipIs("no copy of one that does not OPEN", Check.told("k5555555555;mg0;"), 0, 0, 2, 0, 1);
    }

    private static void slipByKinds() {
        Counted good = Check.told("k5555555555;mg9;");
        slipIs("GOOD never slips", good, 0, 6, 2, 1, 1);
        Counted high = Check.told("k4040404040;mh9;s0;");
        slipIs("FIGURE 10", high, 0, 1, 7, 1, 7);
        Counted round = Check.told("k5050505050;mr4;s0;");
        slipIs("ROUND, once", round, 0, 1, 5, 4, 5);
        slipIs("ROUND, twice", round, 0, 2, 5, 16, 25);
        Counted wobbly = Check.told("l4950495049;k5050505050;mw0;s0;");
        slipIs("WOBBLY, one slip of three", wobbly, 0, 3, 3, 4, 9);
        Counted sloped = Check.told("l5152535455;k5050505050;ms0;s0;");
        slipIs("SLOPED, the slip", sloped, 0, 1, 9, 1, 9);
        Counted lastTooth = Check.told("l5050505051;k5050505050;mh0;s1;");
        slipIs("one of TEETH too far", lastTooth, 0, 2, 2, 3, 4);
    }

    private static void slipIs(String why, Counted x, int machine, int n, int t, long above, long below) {
        String call = "slip(0, " + machine + ", " + n + ", " + t + ", ";
        CHECK.unchanged(call + "0), " + why, x, above, () -> x.slip(0, machine, n, t, 0));
        CHECK.unchanged(call + "1), " + why, x, below, () -> x.slip(0, machine, n, t, 1));
    }

    private static void slipRefused() {
        Counted x = Check.told(KEY + "mm1;");
        for (int wrong : new int[] {-1, 1, LEAST, MOST}) {
            CHECK.refused("slip(" + wrong + ", 0, -1, 1, 2)", x, -1, REFUSED + 1, () -> x.slip(wrong, 0, -1, 1, 2));
            CHECK.refused("slip(0, " + wrong + ", 7, 21, 2)", x, -1, REFUSED + 1, () -> x.slip(0, wrong, 7, 21, 2));
        }
        for (int n : new int[] {-1, LEAST}) {
            CHECK.refused("slip(0, 0, " + n + ", 21, 2)", x, -4, REFUSED + 4, () -> x.slip(0, 0, n, 21, 2));
        }
        for (int t : new int[] {1, 0, -1, LEAST}) {
            CHECK.refused("slip(0, 0, 7, " + t + ", 2)", x, -4, REFUSED + 4, () -> x.slip(0, 0, 7, t, 2));
        }
        for (int n : new int[] {7, MOST}) {
            CHECK.refused("slip(0, 0, " + n + ", 2, 2)", x, -6, REFUSED + 6, () -> x.slip(0, 0, n, 2, 2));
        }
        for (int t : new int[] {21, MOST}) {
            CHECK.refused("slip(0, 0, 6, " + t + ", 2)", x, -6, REFUSED + 6, () -> x.slip(0, 0, 6, t, 2));
        }
        for (int part : new int[] {-1, 2, LEAST, MOST}) {
            CHECK.refused("slip(0, 0, 6, 20, " + part + ")", x, -2, REFUSED + 2, () -> x.slip(0, 0, 6, 20, part));
        }
    }

    private static void two() {
        twoIs("without MACHINES", Check.told(KEY), 0, -9);
        twoIs("one MACHINE", Check.told(KEY + "mm1;"), 0, 0);
        twoIs("the one high, the other low", Check.told(KEY + "mm1;mh2;"), 0, 10);
        twoIs("the one high, the other low", Check.told(KEY + "mh2;mm1;"), 0, 1);
        twoIs("of several the first", Check.told(KEY + "mm1;mm1;mh2;mh2;"), 0, 20);
        Counted five = Check.told("k4352617025;k4454607123;mm1;mh2;mw3;mr4;ms0;");
        twoIs("five MACHINES", five, 0, 13);
        twoIs("five MACHINES", five, 3, 13);
        CHECK.due("two(1, 0)", five.two(1, 0), 3);
        CHECK.due("two(1, 3)", five.two(1, 3), 13);
        five.snaps(1);
        CHECK.due("two(1, 0), SNAPPED", five.two(1, 0), 3);
        twoIs("WOBBLY at an even one of TEETH", Check.told(KEY + "mw5;mm1;"), 2, 10);
        twoIs("WOBBLY at an odd one of TEETH", Check.told(KEY + "mw5;mm1;"), 3, 1);
        twoIs("SLOPED at the last", Check.told(KEY + "mh3;ms0;"), 4, 10);
        twoIs("SLOPED at the first", Check.told(KEY + "mh3;ms0;"), 0, 1);
        twoIs("the first wins nothing by more", Check.told("k4646464646;mm0;mh4;mg0;"), 0, 10);
    }

    private static void twoIs(String why, Counted x, int tooth, int pair) {
        CHECK.unchanged("two(0, " + tooth + "), " + why, x, pair, () -> x.two(0, tooth));
    }

    private static void twoRefused() {
        Counted x = Check.told(KEY);
        for (int wrong : new int[] {-1, 5, LEAST, MOST}) {
            CHECK.refused("two(" + wrong + ", 0)", x, -1, () -> x.two(wrong, 0));
            CHECK.refused("two(0, " + wrong + ")", x, -1, () -> x.two(0, wrong));
        }
    }

    private static void lots() {
        Counted x = Check.told("k5050505050;k5347505544;k1020304099;mm1;mh2;mw1;mg0;");
        int[][] due = {{1, 0, 0, 142}, {1, 1, 0, 20}, {5, 7, 2, 325}, {20, 7, 7, 1309}, {20, -1, 8, 487}, {20, MOST, 8, 487},
            {20, LEAST, 7, 1270}, {13, 123456789, 6, 304}};
        for (int[] row : due) {
            CHECK.unchanged("lots(" + row[0] + ", " + row[1] + ", 0)", x, row[2], () -> x.lots(row[0], row[1], 0));
            CHECK.unchanged("lots(" + row[0] + ", " + row[1] + ", 1)", x, row[3], () -> x.lots(row[0], row[1], 1));
        }
        Counted snapped = Check.told(KEY + "mm1;x0;");
        CHECK.due("lots, a SNAPPED one is cut", snapped.lots(20, 3, 0), 20);
        CHECK.due("lots, twice", snapped.lots(20, 3, 1), 200);
    }

    private static void lotsRefused() {
        Counted x = new Counted();
        for (int n : new int[] {0, -1, LEAST}) {
            CHECK.refused("lots(" + n + ", 0, 2)", x, -4, () -> x.lots(n, 0, 2));
        }
        for (int n : new int[] {21, MOST}) {
            CHECK.refused("lots(" + n + ", 0, 2)", x, -6, () -> x.lots(n, 0, 2));
        }
        for (int what : new int[] {-1, 2, LEAST, MOST}) {
            CHECK.refused("lots(20, 0, " + what + ")", x, -2, () -> x.lots(20, 0, what));
        }
        CHECK.refused("lots(1, 0, 0), nothing", x, -3, () -> x.lots(1, 0, 0));
        Counted noMachines = Check.told(KEY);
        CHECK.refused("lots(1, 0, 0), no MACHINES", noMachines, -3, () -> noMachines.lots(1, 0, 0));
        Counted noKeys = Check.told("mm0;");
        CHECK.refused("lots(20, 0, 1), no KEYS", noKeys, -3, () -> noKeys.lots(20, 0, 1));
    }
}
