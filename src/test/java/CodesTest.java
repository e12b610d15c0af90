/** Promises 23 to 25 and 29: first, unlike, mend, spare. */
public final class CodesTest {
    private static final Check CHECK = new Check("CodesTest");
    private static final int LEAST = Integer.MIN_VALUE;
    private static final int MOST = Integer.MAX_VALUE;

    public static void main(String[] args) {
        codes();
        first();
        unlike();
        setsRefused();
        mend();
        spare();
        CHECK.end();
    }

    private static void codes() {
        Counted x = Check.told("k0000000000;");
        for (int v = 0; v < 100; v++) {
            x.files(0, 3, v);
            int lower = v / 10 * 10;
            int code = v - lower <= 5 ? lower : lower + 10;
            CHECK.due("THE CODE of " + v, x.first(1, 3), code > 90 ? 90 : code);
        }
    }

    private static void first() {
        Counted x = Check.told("k1000990550;k2105980650;k3610001550;k4425969550;");
        int[][] due = {{1, 10, 0, 90, 0, 50}, {3, 10, 0, 90, 0, 50}, {5, 10, 0, 0, 0, 50}, {6, 20, 0, 0, 10, 50},
            {7, 20, 0, 90, 10, 50}, {8, 40, 20, 90, 90, 50}, {12, 40, 10, 0, 10, 50}, {14, 40, 10, 90, 10, 50},
            {15, 20, 0, 90, 10, 50}};
        x.snaps(1);
        for (int[] row : due) {
            for (int t = 0; t < 5; t++) {
                int tooth = t;
                CHECK.unchanged("first(" + row[0] + ", " + tooth + ")", x, row[1 + tooth], () -> x.first(row[0], tooth));
            }
        }
        Counted ten = Check.told("k0000000000;".repeat(5), "k5050505050;".repeat(5));
        CHECK.due("first of ten", ten.first(1023, 0), 0);
        CHECK.due("first of nine", ten.first(1022, 0), 50);
    }

    private static void unlike() {
        Counted x = Check.told("k1000990550;k2105980650;k3610001550;k4425969550;");
        int[][] due = {{1, 0, 0}, {1, 1, 2}, {1, 2, 4}, {1, 3, 3}, {7, 0, 2}, {7, 1, 0}, {7, 2, 3}, {15, 3, 3}, {8, 3, 0}};
        for (int[] row : due) {
            CHECK.unchanged("unlike(" + row[0] + ", " + row[1] + ")", x, row[2], () -> x.unlike(row[0], row[1]));
        }
        CHECK.due("unlike in all", Check.told("k1010101010;k2020202020;").unlike(1, 1), 5);
    }

    private static void setsRefused() {
        Counted x = Check.told("k1010101010;k2020202020;");
        for (int set : new int[] {0, -1, LEAST}) {
            CHECK.refused("first(" + set + ", 5)", x, -4, () -> x.first(set, 5));
            CHECK.refused("unlike(" + set + ", 2)", x, -4, () -> x.unlike(set, 2));
        }
        for (int set : new int[] {4, 5, 1024, MOST}) {
            CHECK.refused("first(" + set + ", 5)", x, -6, () -> x.first(set, 5));
            CHECK.refused("unlike(" + set + ", 2)", x, -6, () -> x.unlike(set, 2));
        }
        for (int wrong : new int[] {-1, 5, LEAST, MOST}) {
            CHECK.refused("first(3, " + wrong + ")", x, -1, () -> x.first(3, wrong));
            CHECK.refused("unlike(3, " + wrong + ")", x, -1, () -> x.unlike(3, wrong));
        }
        CHECK.refused("unlike(3, 2)", x, -1, () -> x.unlike(3, 2));
        Counted none = new Counted();
        CHECK.refused("first(1, 0), no KEYS", none, -6, () -> none.first(1, 0));
        CHECK.refused("unlike(0, 0), no KEYS", none, -4, () -> none.unlike(0, 0));
        Counted ten = Check.told("k0000000000;".repeat(5), "k5050505050;".repeat(5));
        CHECK.refused("first(1024, 0), ten KEYS", ten, -6, () -> ten.first(1024, 0));
    }

    private static void mend() {
        CHECK.due("mend, better", Check.told("k5555555555;").mend(0), 25);
        CHECK.due("mend, worse", Check.told("l4352617025;k4352617025;").mend(0), -11);
        CHECK.due("mend, 90 at most", Check.told("l9999999999;k9999999999;").mend(0), -45);
        CHECK.due("mend, as good", Check.told("k5050505050;").mend(0), 0);
        Counted x = Check.told("l5050505050;k5650505051;x0;");
        CHECK.unchanged("mend(0), SNAPPED", x, -3, () -> x.mend(0));
        for (int key : new int[] {-1, 1, LEAST, MOST}) {
            CHECK.refused("mend(" + key + ")", x, -1, 1000000001L, () -> x.mend(key));
        }
    }

    private static void spare() {
        spareIs("no KEYS", new Counted(), -9);
        Counted x = Check.told("k5050000000;k0000505050;k5050505000;k0000000050;");
        spareIs("two of several pairs", x, 3);
        x.snaps(0);
        spareIs("0 SNAPPED", x, 6);
        x.snaps(1);
        spareIs("1 SNAPPED", x, 12);
        x.snaps(3);
        spareIs("not enough", x, -9);
        Check.tell(x, "k5252485250;");
        spareIs("one alone", x, 16);
        spareIs("one alone, of several the least", Check.told("k0000000000;k5050505050;k5050505050;"), 2);
        spareIs("the first alone", Check.told("k5050505050;k5050505050;"), 1);
        spareIs("ten KEYS", Check.told("k0000000000;".repeat(8), "k5050500000;k0000005050;"), 768);
        spareIs("within SLACK", Check.told("k5252525253;k0000000048;"), 3);
        spareIs("beyond SLACK", Check.told("k5252525253;k0000000047;"), -9);
        spareIs("five of five", Check.told("k5000000000;k0050000000;k0000500000;k0000005000;k0000000050;"), 31);
        spareIs("fewer, though greater", Check.told("k5000000000;k0050505000;k0000000050;k5000000050;"), 10);
    }

    private static void spareIs(String why, Counted x, int bits) {
        CHECK.unchanged("spare(), " + why, x, bits, x::spare);
    }
}
