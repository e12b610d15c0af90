/** Promises 15, 16, 26 to 28: family, common, line, bestLine, ask. */
public final class FamilyTest {
    private static final Check CHECK = new Check("FamilyTest");
    private static final int[] WRONG_KEYS = {-1, 7, Integer.MIN_VALUE, Integer.MAX_VALUE};

    public static void main(String[] args) {
        family();
        common();
        line();
        bestLine();
        ask();
        refusals();
        CHECK.end();
    }

    /** KEYS 0 (50) and 1 (60) FROM none, 2 (49) and 4 (49) FROM 0, 3 (48) FROM 2, 5 (59) FROM 1, 6 (47) FROM 3. */
    private static Counted tree() {
        return Check.told("k5050505050;k6060606060;mm1;c00;c20;c00;c10;c30;");
    }

    private static void family() {
        Counted x = tree();
        int[][] due = {{0, 0, 2, 93}, {0, 1, 1, 34}, {1, 0, 1, 76}, {2, 0, 1, 72}, {1, 0, 0, 16}, {1, 1, 0, 32},
            {3, 0, 0, 64}};
        for (int key = 0; key < 7; key++) {
            for (int what = 0; what < 4; what++) {
                CHECK.due("family(" + key + ", " + what + ")", x.family(key, what), due[key][what]);
            }
        }
        x.snaps(2);
        CHECK.due("HEIRS, one SNAPPED", x.family(0, 3), 93);
        CHECK.due("DEPTH, one SNAPPED", x.family(6, 0), 3);
    }

    private static void common() {
        Counted x = tree();
        int[][] due = {{0, 0, 0}, {6, 6, 6}, {3, 4, 0}, {4, 3, 0}, {6, 2, 2}, {2, 6, 2}, {6, 3, 3}, {6, 4, 0}, {2, 4, 0},
            {6, 5, -9}, {5, 6, -9}, {0, 1, -9}, {1, 5, 1}, {5, 5, 5}, {6, 0, 0}};
        for (int[] row : due) {
            CHECK.due("common(" + row[0] + ", " + row[1] + ")", x.common(row[0], row[1]), row[2]);
        }
    }

    private static void line() {
        Counted x = tree();
        int[] due = {4, 0, 2, 1, 1, 0, 0};
        for (int key = 0; key < 7; key++) {
            CHECK.due("line(" + key + ")", x.line(key), due[key]);
        }
        x.snaps(0);
        CHECK.due("line(0), 0 SNAPPED", x.line(0), 3);
        x.slack(9);
        CHECK.due("line(0), SLACK 9", x.line(0), 4);
        CHECK.due("line(1), SLACK 9", x.line(1), 1);
    }

    private static void bestLine() {
        CHECK.due("bestLine(), no KEYS", new Counted().bestLine(), -9);
        Counted x = tree();
        CHECK.due("bestLine()", x.bestLine(), 0);
        Check.tell(x, "l6060606060;");
        CHECK.due("bestLine(), PINS 60", x.bestLine(), 1);
        Check.tell(x, "l1010101010;");
        CHECK.due("bestLine(), none OPENS", x.bestLine(), 0);
        Counted copyOpens = Check.told("k1010101010;k5252525252;k1111111111;mm1;c10;");
        CHECK.due("bestLine(), two of one line", copyOpens.bestLine(), 1);
        Counted ten = Check.told("k0000000000;".repeat(8), "k0000000000;k5050505050;");
        CHECK.due("bestLine(), ten KEYS", ten.bestLine(), 9);
        Counted even = Check.told("k5050505050;k5050505050;");
        CHECK.due("bestLine(), as many", even.bestLine(), 0);
        even.snaps(0);
        CHECK.due("bestLine(), the first SNAPPED", even.bestLine(), 1);
        even.snaps(1);
        CHECK.due("bestLine(), all SNAPPED", even.bestLine(), 0);
    }

    private static void ask() {
        Counted x = tree();
        int[] due = {2, -9, 0, 2, 0, -9, 3};
        for (int key = 0; key < 7; key++) {
            CHECK.due("ask(" + key + ")", x.ask(key), due[key]);
        }
        x.snaps(0);
        CHECK.due("ask(2), 0 SNAPPED", x.ask(2), 4);
        CHECK.due("ask(4), 0 SNAPPED", x.ask(4), 2);
        CHECK.due("ask(0), itself SNAPPED", x.ask(0), 2);
        x.snaps(2);
        CHECK.due("ask(4), 0 and 2 SNAPPED", x.ask(4), -9);
        CHECK.due("ask(2), its copy and another", x.ask(2), 4);
        x.snaps(4);
        CHECK.due("ask(2), its copy", x.ask(2), 3);
        Counted roots = Check.told("k5050505050;k5050505050;");
        CHECK.due("ask(0), another FROM none", roots.ask(0), -9);
        Counted grandchild = Check.told("k5050505050;mm3;mh3;c00;c11;");
        CHECK.due("ask(0), only a copy's copy OPENS", grandchild.ask(0), -9);
        CHECK.due("ask(2), only a copy's own root OPENS", grandchild.ask(2), -9);
        CHECK.due("ask(1), both OPEN, of several the least", grandchild.ask(1), 0);
    }

    private static void refusals() {
        Counted x = tree();
        for (int key : WRONG_KEYS) {
            CHECK.refused("family(" + key + ", 4)", x, -1, () -> x.family(key, 4));
            CHECK.refused("common(" + key + ", 0)", x, -1, () -> x.common(key, 0));
            CHECK.refused("common(0, " + key + ")", x, -1, () -> x.common(0, key));
            CHECK.refused("line(" + key + ")", x, -1, () -> x.line(key));
            CHECK.refused("ask(" + key + ")", x, -1, () -> x.ask(key));
        }
        for (int what : new int[] {-1, 4, Integer.MIN_VALUE, Integer.MAX_VALUE}) {
            CHECK.refused("family(0, " + what + ")", x, -2, () -> x.family(0, what));
        }
        CHECK.unchanged("family(6, 3)", x, 64, () -> x.family(6, 3));
        CHECK.unchanged("common(6, 4)", x, 0, () -> x.common(6, 4));
        CHECK.unchanged("bestLine()", x, 0, x::bestLine);
        CHECK.unchanged("ask(0)", x, 2, () -> x.ask(0));
    }
}
