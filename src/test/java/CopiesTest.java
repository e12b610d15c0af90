/** Promises 17 to 22: nearest, next, inRow, lasts, fit, anew. */
public final class CopiesTest {
    private static final Check CHECK = new Check("CopiesTest");
    private static final int LEAST = Integer.MIN_VALUE;
    private static final int MOST = Integer.MAX_VALUE;
    private static final String KEY = "k5050505050;";

    public static void main(String[] args) {
        nearest();
        next();
        inRow();
        inRowRefused();
        lasts();
        fit();
        anew();
        CHECK.end();
    }

    private static void nearest() {
        Counted x = new Counted();
        CHECK.unchanged("nearest(), no KEYS", x, -9, x::nearest);
        Check.tell(x, "k5350505050;k5050515050;k5050504950;k9999999999;");
        CHECK.unchanged("nearest()", x, 1, x::nearest);
        x.snaps(1);
        CHECK.due("nearest(), 1 SNAPPED", x.nearest(), 2);
        x.snaps(2);
        CHECK.due("nearest(), 2 SNAPPED", x.nearest(), 0);
        x.snaps(0);
        CHECK.due("nearest(), though it does not OPEN", x.nearest(), 3);
        x.snaps(3);
        CHECK.due("nearest(), all SNAPPED", x.nearest(), -9);
    }

    private static void next() {
        Counted x = new Counted();
        nextIs("no KEYS", x, -9, -9);
        Check.tell(x, "mm1;mh1;mm2;");
        nextIs("no KEYS but MACHINES", x, -9, -9);
        Check.tell(x, "k5252525252;k4848484848;");
        nextIs("two KEYS", x, 2, 0);
        x.snaps(0);
        nextIs("0 SNAPPED", x, 11, 5);
        x.snaps(1);
        nextIs("all SNAPPED", x, -9, -9);
        nextIs("no MACHINES", Check.told(KEY), -9, -9);
        nextIs("of several the first", Check.told(KEY + KEY + "mm0;mh0;"), 0, 0);
        nextIs("the first by KEYS", Check.told("k5252525252;k5454545454;mm5;mm1;"), 1, 5);
        Counted full = Check.told("k0000000000;".repeat(8), "k0000000000;k4747474747;mm9;mh3;");
        nextIs("without room for it", full, 91, 0);
        for (int what : new int[] {-1, 2, LEAST, MOST}) {
            CHECK.refused("next(" + what + ")", x, -2, () -> x.next(what));
        }
    }

    private static void nextIs(String why, Counted x, int which, int wiggle) {
        CHECK.unchanged("next(0), " + why, x, which, () -> x.next(0));
        CHECK.unchanged("next(1), " + why, x, wiggle, () -> x.next(1));
    }

    private static void inRow() {
        rowIs("MACHINE 1", Check.told(KEY + "mm1;"), 2, 0);
        rowIs("MACHINE 0", Check.told(KEY + "mm0;"), 30, -9);
        rowIs("WOBBLY, the tooth ahead is nearer", Check.told("k4950485050;mw1;"), 0, 2);
        rowIs("SLOPED", Check.told(KEY + "ms0;"), 0, 3);
        rowIs("SLOPED, SLACK 9", Check.told(KEY + "ms0;s9;"), 2, 4);
        rowIs("the KEY itself does not OPEN", Check.told("k5353535353;mm1;"), 5, 0);
        rowIs("the longest", Check.told("k5959595959;mm1;s9;"), 18, 0);
        rowIs("held at 0", Check.told("l0101010101;k0505050505;mm3;"), 30, -9);
        rowIs("ROUND comes back", Check.told("k5252525252;mr3;"), 30, -9);
        rowIs("SNAPPED no matter", Check.told(KEY + "mm1;x0;"), 2, 0);
        rowIs("the last of TEETH alone", Check.told("k5050505048;mm1;"), 0, 4);
        rowIs("first by copies, not by TEETH", Check.told("k5050505049;mm1;"), 1, 4);
    }

    private static void rowIs(String why, Counted x, int copies, int tooth) {
        CHECK.unchanged("inRow(0, 0, 0), " + why, x, copies, () -> x.inRow(0, 0, 0));
        CHECK.unchanged("inRow(0, 0, 1), " + why, x, tooth, () -> x.inRow(0, 0, 1));
    }

    private static void inRowRefused() {
        Counted x = Check.told(KEY + KEY + "mm1;mh1;");
        for (int wrong : new int[] {-1, 2, LEAST, MOST}) {
            CHECK.refused("inRow(" + wrong + ", 0, 2)", x, -1, () -> x.inRow(wrong, 0, 2));
            CHECK.refused("inRow(0, " + wrong + ", 2)", x, -1, () -> x.inRow(0, wrong, 2));
            CHECK.refused("inRow(0, 0, " + wrong + ")", x, -2, () -> x.inRow(0, 0, wrong));
        }
        CHECK.due("inRow(1, 1, 0)", x.inRow(1, 1, 0), 2);
    }

    private static void lasts() {
        lastsIs("as the PINS", Check.told(KEY), 50);
        lastsIs("too high at first", Check.told("k5353535353;"), 0);
        lastsIs("higher than the PINS", Check.told("k5252525252;"), 90);
        lastsIs("SNAPPED", Check.told(KEY + "x0;"), 0);
        lastsIs("all at 0", Check.told("l0000000000;k0000000000;"), -9);
        lastsIs("worn to 0", Check.told("l0202020202;k0000000000;"), -9);
        lastsIs("SLACK 9", Check.told("l9999999999;k9999999999;s9;"), 190);
        lastsIs("the longest", Check.told("l9090909090;k9999999999;s9;"), 370);
        lastsIs("SLACK 0", Check.told(KEY + "s0;"), 10);
        lastsIs("one of TEETH alone", Check.told("k5050505048;"), 10);
        lastsIs("PINS worn from above it", Check.told("l0300000000;k0100000000;"), 10);
        Counted x = Check.told(KEY);
        for (int key : new int[] {-1, 1, LEAST, MOST}) {
            CHECK.refused("lasts(" + key + ")", x, -1, () -> x.lasts(key));
        }
    }

    private static void lastsIs(String why, Counted x, int n) {
        CHECK.unchanged("lasts(0), " + why, x, n, () -> x.lasts(0));
    }

    private static void fit() {
        Counted x = Check.told("k5150455354;k5050505050;x0;");
        CHECK.unchanged("fit(0)", x, 5, () -> x.fit(0));
        CHECK.unchanged("fit(1)", x, 0, () -> x.fit(1));
        CHECK.due("fit, the most", Check.told("l0000000000;k0000000099;").fit(0), 99);
        for (int key : new int[] {-1, 2, LEAST, MOST}) {
            CHECK.refused("fit(" + key + ")", x, -1, () -> x.fit(key));
        }
    }

    private static void anew() {
        anewIs("no KEYS", new Counted(), 0, 0, 0, 0, 0, 0);
        anewIs("one KEY", Check.told("k0001025099;"), 1, 0, 0, 0, 48, 97);
        anewIs("two of three", Check.told("k1010101010;k1414141414;k3030303030;"), 2, 12, 12, 12, 12, 12);
        anewIs("of several the least", Check.told("k1011121314;k1212121212;"), 2, 10, 10, 10, 11, 12);
        anewIs("SLACK 0", Check.told("k1010101010;k1212121212;k1212121212;s0;"), 2, 12, 12, 12, 12, 12);
        anewIs("the greatest PIN", Check.told("k9999999999;s0;"), 1, 99, 99, 99, 99, 99);
        anewIs("as many, the lower", Check.told("k8080808080;k2020202020;s0;"), 1, 20, 20, 20, 20, 20);
        anewIs("each of TEETH by itself", Check.told("k1010905050;k1090105050;k9010105050;s0;"), 0, 10, 10, 10, 50, 50);
        Counted x = Check.told("k1010101010;k1414141414;k3030303030;x0;x1;");
        anewIs("SNAPPED ones do not count", x, 1, 28, 28, 28, 28, 28);
        x.snaps(2);
        anewIs("all SNAPPED", x, 0, 0, 0, 0, 0, 0);
        anewIs("a SNAPPED one as the others", Check.told("k1010101010;k1010101010;x0;"), 1, 8, 8, 8, 8, 8);
        anewIs("all SNAPPED, all at 0", Check.told("k0000000000;x0;"), 0, 0, 0, 0, 0, 0);
        for (int tooth : new int[] {-2, 5, LEAST, MOST}) {
            CHECK.refused("anew(" + tooth + ")", x, -1, () -> x.anew(tooth));
        }
    }

    private static void anewIs(String why, Counted x, int open, int... pins) {
        CHECK.unchanged("anew(-1), " + why, x, open, () -> x.anew(-1));
        for (int t = 0; t < 5; t++) {
            int tooth = t;
            CHECK.unchanged("anew(" + tooth + "), " + why, x, pins[tooth], () -> x.anew(tooth));
        }
    }
}
