/** Promises 32 to 35: which, row, judge, clear. */
public final class RowTest {
    private static final Check CHECK = new Check("RowTest");
    private static final int LEAST = Integer.MIN_VALUE;
    private static final int MOST = Integer.MAX_VALUE;

    public static void main(String[] args) {
        which();
        whichRefused();
        row();
        judge();
        clear();
        CHECK.end();
    }

    private static void which() {
        Counted x = Check.told("k4142434445;mm3;mh3;mr3;mg9;mm3;", "x0;");
        whichIs(x, 17, 3, 1, 38, 39, 40, 41, 42);
        whichIs(x, 17, 2, 0, 38, 39, 40, 41, 42);
        whichIs(x, 2, 3, 2, 44, 45, 46, 47, 48);
        whichIs(x, 12, 3, 40, 40, 40, 40, 40, 40);
        whichIs(x, 12, 9, 32, 40, 40, 40, 40, 40);
        whichIs(x, 0, 0, 7, 41, 42, 43, 44, 45);
        whichIs(x, 0, 2, 4, 39, 42, 41, 44, 43);
        whichIs(x, 0, 5, 16, 46, 48, 50, 52, 54);
        whichIs(x, 0, 3, 0, 38, 39, 40, 41, 43);
        whichIs(x, 0, 3, 0, 39, 39, 40, 41, 42);
        Counted low = Check.told("k0000000000;mm9;");
        whichIs(low, 1, 9, 45, 0, 0, 0, 0, 0);
        Counted other = Check.told("k4142434445;k5050505050;mm1;");
        Check.tellRow(other, 49, 49, 49, 49, 49);
        CHECK.due("which(1, 1, 0)", other.which(1, 1, 0), 1);
        CHECK.due("which(0, 1, 0)", other.which(0, 1, 0), 0);
        CHECK.due("the ROW stays", other.judge(1), 0);
    }

    private static void whichIs(Counted x, int machines, int figure, int kinds, int... told) {
        Check.tellRow(x, told);
        CHECK.unchanged("which(0, " + figure + ", 0)", x, machines, () -> x.which(0, figure, 0));
        CHECK.unchanged("which(0, " + figure + ", 1)", x, kinds, () -> x.which(0, figure, 1));
        CHECK.due("the ROW stays", x.clear(), 5);
    }

    private static void whichRefused() {
        Counted x = Check.told("k4142434445;mm3;");
        for (int key : new int[] {-1, 1, LEAST, MOST}) {
            CHECK.refused("which(" + key + ", -1, 2)", x, -1, () -> x.which(key, -1, 2));
        }
        CHECK.refused("which(0, -1, 2)", x, -4, () -> x.which(0, -1, 2));
        CHECK.refused("which(0, least, 0)", x, -4, () -> x.which(0, LEAST, 0));
        CHECK.refused("which(0, 10, 2)", x, -6, () -> x.which(0, 10, 2));
        CHECK.refused("which(0, most, 0)", x, -6, () -> x.which(0, MOST, 0));
        for (int what : new int[] {-1, 2, LEAST, MOST}) {
            CHECK.refused("which(0, 9, " + what + ")", x, -2, () -> x.which(0, 9, what));
        }
        for (int told = 0; told <= 12; told++) {
            if (told != 5) {
                int had = told;
                CHECK.refused("which, " + had + " told", x, -3, () -> x.which(0, 0, 0));
                CHECK.refused("which, " + had + " told", x, -3, () -> x.which(0, 0, 1));
            }
            x.row(41);
        }
    }

    private static void row() {
        Counted x = new Counted();
        CHECK.refused("row(-1)", x, -4, () -> x.row(-1));
        CHECK.refused("row(least)", x, -4, () -> x.row(LEAST));
        CHECK.refused("row(100)", x, -6, () -> x.row(100));
        CHECK.refused("row(most)", x, -6, () -> x.row(MOST));
        for (int n = 1; n <= 12; n++) {
            CHECK.due("row", x.row(n % 2 == 0 ? 0 : 99), n);
            CHECK.due("count(6)", x.count(6), n);
        }
        CHECK.refused("row(0), full", x, -6, () -> x.row(0));
        CHECK.refused("row(-1), full", x, -4, () -> x.row(-1));
        CHECK.due("clear()", x.clear(), 12);
        CHECK.due("row(0) behind clear()", x.row(0), 1);
    }

    private static void judge() {
        Counted x = Check.told("k1020304050;k1020304051;");
        judged(x, 0, -9);
        judged(x, 0, -9, 10);
        judged(x, 0, 0, 11);
        judged(x, 0, -9, 10, 20, 30, 40);
        judged(x, 0, -9, 10, 20, 30, 40, 50);
        judged(x, 1, 4, 10, 20, 30, 40, 50);
        judged(x, 0, 2, 10, 20, 31, 40, 51);
        judged(x, 0, 5, 10, 20, 30, 40, 50, 10);
        judged(x, 0, 5, 10, 20, 30, 40, 50, 0, 0, 0, 0, 0, 0, 0);
        judged(x, 0, 3, 10, 20, 30, 41, 50, 10);
        x.snaps(0);
        judged(x, 0, -9, 10, 20, 30, 40, 50);
        Check.tellRow(x, 10, 20, 33);
        for (int key : new int[] {-1, 2, LEAST, MOST}) {
            CHECK.refused("judge(" + key + ")", x, -1, () -> x.judge(key));
        }
        CHECK.due("the ROW stays", x.judge(0), 2);
    }

    private static void judged(Counted x, int key, int answer, int... told) {
        Check.tellRow(x, told);
        CHECK.due("judge(" + key + ") of " + told.length, x.judge(key), answer);
        CHECK.due("the ROW has none then", x.count(6), 0);
    }

    private static void clear() {
        Counted x = new Counted();
        CHECK.due("clear(), none", x.clear(), 0);
        Check.tellRow(x, 1, 2, 3);
        CHECK.due("clear()", x.clear(), 3);
        CHECK.due("count(6)", x.count(6), 0);
        CHECK.due("clear() again", x.clear(), 0);
    }
}
