/** What is held 0 .. 99, what is cut down, the nearest multiple of 10, and what is just within SLACK or just too far. */
public final class HeldTest {
    private static final Edge EDGE = new Edge("HeldTest");
    private static final String KINDS = "mhwrsg";

    public static void main(String[] args) {
        lower();
        higher();
        wobbly();
        round();
        sloped();
        good();
        everyHeight();
        codes();
        usedHeights();
        usedPins();
        withinSlack();
        lasts();
        inMind();
        EDGE.end();
    }

    /** One of TEETH of what a MACHINE cuts from a KEY that has that HEIGHT at all of TEETH: by cut, by "c" and in mind. */
    private static void copy(String sentence, String machine, int height, int tooth, int due) {
        String text = "tell(" + five('k', height) + "m" + machine + ";)";
        String asked = "key(1, " + tooth + ")";
        EDGE.due(sentence, due, text, "cut(0, 0)", asked);
        EDGE.due(sentence + ", by c", due, text, "tell(c00;)", asked);
    }

    private static String five(char statement, int height) {
        String digits = height < 10 ? "0" + height : String.valueOf(height);
        return statement + digits.repeat(5) + ";";
    }

    private static void lower() {
        copy("m: FIGURE 0", "m0", 50, 0, 50);
        copy("m: FIGURE 9", "m9", 50, 4, 41);
        copy("m: just to 0", "m9", 9, 0, 0);
        copy("m: held at 0", "m9", 8, 1, 0);
        copy("m: held at 0 from 0", "m9", 0, 2, 0);
        copy("m: one above 0", "m9", 10, 3, 1);
        copy("m: from 99", "m0", 99, 4, 99);
    }

    private static void higher() {
        copy("h: FIGURE 0", "h0", 50, 0, 50);
        copy("h: FIGURE 9", "h9", 50, 4, 59);
        copy("h: just to 99", "h9", 90, 0, 99);
        copy("h: held at 99", "h9", 91, 1, 99);
        copy("h: held at 99 from 99", "h9", 99, 2, 99);
        copy("h: one below 99", "h9", 89, 3, 98);
        copy("h: from 0", "h0", 0, 4, 0);
    }

    private static void wobbly() {
        for (int tooth = 0; tooth < 5; tooth++) {
            copy("w: lower at even, as it was at odd", "w9", 50, tooth, tooth % 2 == 0 ? 41 : 50);
            copy("w: held at 0 at even", "w9", 8, tooth, tooth % 2 == 0 ? 0 : 8);
            copy("w: 99 at odd", "w9", 99, tooth, tooth % 2 == 0 ? 90 : 99);
        }
    }

    private static void round() {
        copy("r: of two the lower", "r0", 45, 0, 40);
        copy("r: nearer to the higher", "r0", 46, 1, 50);
        copy("r: nearer to the lower", "r0", 44, 2, 40);
        copy("r: FIGURE lower ahead of it", "r1", 46, 3, 40);
        copy("r: FIGURE lower, still higher", "r1", 47, 4, 50);
        copy("r: by what MACHINE is held at, 0", "r9", 3, 0, 0);
        copy("r: 5 is nearer to none, 0", "r0", 5, 0, 0);
        copy("r: 6", "r0", 6, 0, 10);
        copy("r: 95 is 90", "r0", 95, 0, 90);
        copy("r: 96 would be 100: held at 99", "r0", 96, 0, 99);
        copy("r: 99 would be 100: held at 99", "r0", 99, 4, 99);
        copy("r: 99 less 4 is 90", "r4", 99, 1, 90);
        copy("r: 99 less 3 is held at 99", "r3", 99, 1, 99);
    }

    private static void sloped() {
        for (int tooth = 0; tooth < 5; tooth++) {
            copy("s: 1 higher for each of TEETH ahead", "s0", 50, tooth, 50 + tooth);
            copy("s: FIGURE higher, too", "s9", 50, tooth, 59 + tooth);
            copy("s: from 0", "s0", 0, tooth, tooth);
            copy("s: held at 99", "s0", 97, tooth, tooth < 2 ? 97 + tooth : 99);
            copy("s: by what HIGH is held at", "s9", 93, tooth, 99);
            copy("s: just to 99 at the last", "s5", 90, tooth, 95 + tooth);
        }
    }

    private static void good() {
        copy("g: FIGURE no matter", "g9", 50, 0, 50);
        copy("g: of two the lower", "g9", 45, 1, 40);
        copy("g: nearer to the higher", "g9", 46, 2, 50);
        copy("g: 5 is 0", "g0", 5, 3, 0);
        copy("g: 6 is 10", "g0", 6, 4, 10);
        copy("g: 95 is 90", "g0", 95, 0, 90);
        copy("g: 96 would be 100: held at 99", "g0", 96, 0, 99);
        copy("g: 99 would be 100: held at 99", "g0", 99, 4, 99);
    }

    /** Each KIND, FIGURE and HEIGHT once, with the sentences of the document as they stand. */
    private static void everyHeight() {
        for (int kind = 0; kind < 6; kind++) {
            for (int figure = 0; figure <= 9; figure++) {
                for (int height = 0; height < 100; height++) {
                    int tooth = (height + figure) % 5;
                    EDGE.due("each KIND, FIGURE, HEIGHT", told(kind, figure, height, tooth),
                        "tell(" + five('k', height) + "m" + KINDS.charAt(kind) + figure + ";c00;)", "key(1, " + tooth + ")");
                }
            }
        }
    }

    private static int told(int kind, int figure, int height, int tooth) {
        int lower = height < figure ? 0 : height - figure;
        int higher = height + figure > 99 ? 99 : height + figure;
        return switch (kind) {
            case 0 -> lower;
            case 1 -> higher;
            case 2 -> tooth == 1 || tooth == 3 ? height : lower;
            case 3 -> nearest(lower);
            case 4 -> higher + tooth > 99 ? 99 : higher + tooth;
            default -> nearest(height);
        };
    }

    private static int nearest(int height) {
        int ten = 0;
        while (ten + 5 < height) {
            ten += 10;
        }
        return ten > 99 ? 99 : ten;
    }

    private static void codes() {
        int[][] due = {{0, 0}, {4, 0}, {5, 0}, {6, 10}, {14, 10}, {15, 10}, {16, 20}, {85, 80}, {86, 90}, {94, 90}, {95, 90},
            {96, 90}, {99, 90}};
        for (int[] row : due) {
            EDGE.due("THE CODE of " + row[0], row[1], "tell(" + five('k', row[0]) + ")", "first(1, 2)");
            EDGE.due("MEND by THE CODE of " + row[0], 5 * (99 - row[0]) - 5 * (99 - row[1]),
                "tell(" + five('l', 99) + five('k', row[0]) + ")", "mend(0)");
        }
        EDGE.due("CODES of 96 and 94 are as one another", 0, "tell(k9696969696;k9494949494;)", "unlike(1, 1)");
        EDGE.due("CODES of 94 and 96 are, too", 0, "tell(k9696969696;k9494949494;)", "unlike(2, 0)");
        EDGE.due("CODES of 5 and 6 are not", 5, "tell(k0505050505;k0606060606;)", "unlike(1, 1)");
        EDGE.due("MEND may be below 0, the least", -45, "tell(l9999999999;k9999999999;)", "mend(0)");
        EDGE.due("MEND, the most", 25, "tell(l5050505050;k4545454545;)", "files(0, 0, 55)", "files(0, 1, 55)",
            "files(0, 2, 55)", "files(0, 3, 55)", "files(0, 4, 55)", "mend(0)");
    }

    /** USED n times, by uses and by "u". */
    private static void used(String sentence, int n, String asked, int height, int due) {
        String text = "tell(" + five('l', height) + five('k', height) + ")";
        EDGE.due(sentence, due, text, "uses(0, " + n + ")", asked);
        EDGE.due(sentence + ", by u", due, text, "tell(u0" + (n < 10 ? "0" + n : String.valueOf(n)) + ";)", asked);
    }

    private static void usedHeights() {
        int[][] due = {{1, 50, 50}, {9, 50, 50}, {10, 50, 49}, {19, 50, 49}, {20, 50, 48}, {29, 50, 48}, {89, 50, 42},
            {90, 50, 41}, {99, 50, 41}, {99, 99, 90}, {99, 10, 1}, {99, 9, 0}, {99, 8, 0}, {10, 1, 0}, {10, 0, 0}, {99, 0, 0}};
        for (int[] row : due) {
            for (int tooth = 0; tooth < 5; tooth++) {
                used("HEIGHT " + row[1] + " USED " + row[0] + " times", row[0], "key(0, " + tooth + ")", row[1], row[2]);
            }
        }
    }

    private static void usedPins() {
        int[][] due = {{1, 50, 50}, {10, 50, 50}, {19, 50, 50}, {20, 50, 49}, {39, 50, 49}, {40, 50, 48}, {79, 50, 47},
            {80, 50, 46}, {99, 50, 46}, {99, 99, 95}, {99, 5, 1}, {99, 4, 0}, {99, 3, 0}, {20, 1, 0}, {20, 0, 0}, {99, 0, 0}};
        for (int[] row : due) {
            for (int tooth = 0; tooth < 5; tooth++) {
                used("PIN " + row[1] + " USED " + row[0] + " times", row[0], "pin(" + tooth + ")", row[1], row[2]);
            }
        }
        EDGE.due("another KEY is not worn", 50, "tell(k5050505050;k5050505050;)", "uses(0, 99)", "key(1, 0)");
        EDGE.due("9 and 1 times are not 10 at once", 50, "tell(k5050505050;)", "uses(0, 9)", "uses(0, 1)", "key(0, 0)");
    }

    private static void withinSlack() {
        for (int slack = 0; slack <= 9; slack++) {
            for (int tooth = 0; tooth < 5; tooth++) {
                String[] start = {"tell(k5050505050;s" + slack + ";)", "files(0, " + tooth + ", "};
                int[] heights = {50 - slack - 1, 50 - slack, 50 + slack, 50 + slack + 1};
                for (int i = 0; i < 4; i++) {
                    String filed = start[1] + heights[i] + ")";
                    int within = i == 1 || i == 2 ? 1 : 0;
                    EDGE.due("no farther than SLACK: OPENS", within, start[0], filed, "key(0, 7)");
                    EDGE.due("no farther than SLACK: OPENING ones", within, start[0], filed, "opening()");
                    EDGE.due("no farther than SLACK: SPARE", within == 1 ? 1 : -9, start[0], filed, "spare()");
                    EDGE.due("no farther than SLACK: FIT", within == 1 ? slack : slack + 1, start[0], filed, "fit(0)");
                }
            }
        }
    }

    private static void lasts() {
        EDGE.due("just worn too low", 50, "tell(k5050505050;)", "lasts(0)");
        EDGE.due("opens with one less", 1, "tell(k5050505050;)", "uses(0, 49)");
        EDGE.due("opens no more with so many", 0, "tell(k5050505050;)", "uses(0, 50)");
        EDGE.due("OPENS not even now", 0, "tell(k5353535353;)", "lasts(0)");
        EDGE.due("never opened, though worn it would", 0, "tell(k5353535353;)", "uses(0, 9)");
        EDGE.due("HEIGHTS stay at 0, PINS within SLACK", -9, "tell(l0202020202;k0000000000;)", "lasts(0)");
        EDGE.due("HEIGHTS at 0 ahead of PINS: just too far", 30, "tell(l0404040404;k0303030303;)", "lasts(0)");
        EDGE.due("HEIGHTS at 0 ahead of PINS: just within SLACK", -9, "tell(l0303030303;k0303030303;)", "lasts(0)");
        EDGE.due("both at 0", -9, "tell(l0000000000;k0000000000;)", "lasts(0)");
        EDGE.due("USES do not matter to it", 50, "tell(k5050505050;k5050505050;)", "uses(1, 9)", "lasts(0)");
        for (int tooth = 0; tooth < 5; tooth++) {
            String filed = "files(0, " + tooth + ", ";
            EDGE.due("one of TEETH alone OPENS no more", 10, "tell(k5050505050;)", filed + "48)", "lasts(0)");
            EDGE.due("one of TEETH alone does not OPEN now", 0, "tell(k5050505050;)", filed + "47)", "lasts(0)");
        }
        EDGE.due("the longest there is", 370, "tell(l9090909090;k9999999999;s9;)", "lasts(0)");
    }

    private static void inMind() {
        EDGE.due("SLIP: FIGURE 9 is 10 that time", 1, "tell(l6060606060;k5050505050;mh9;s0;)", "slip(0, 0, 1, 2, 0)");
        EDGE.due("SLIP: FIGURE 10 lower, held at 0", 1, "tell(l0000000000;k0909090909;mm9;s0;)", "slip(0, 0, 1, 2, 1)");
        EDGE.due("SLIP: held at 99", 1, "tell(l9999999999;k9090909090;mh9;s0;)", "slip(0, 0, 1, 2, 1)");
        EDGE.due("SLIP: just below 99 but for a slip", 2, "tell(l9999999999;k8989898989;mh9;s0;)", "slip(0, 0, 1, 2, 1)");
        EDGE.due("IN A ROW: held at 0", 30, "tell(l0000000000;k0202020202;mm9;)", "inRow(0, 0, 0)");
        EDGE.due("IN A ROW: held at 99", 30, "tell(l9999999999;k9090909090;mh9;)", "inRow(0, 0, 0)");
        EDGE.due("GOES FIRST: none within 30", -9, "tell(l9999999999;k9090909090;mh9;)", "inRow(0, 0, 1)");
        EDGE.due("NEXT: held at 0", 0, "tell(l0000000000;k0303030303;mm9;)", "next(1)");
        EDGE.due("NEXT: held at 99", 0, "tell(l9999999999;k9494949494;mh9;)", "next(1)");
        EDGE.due("TWO: held at 0, so both are as good", 0, "tell(k0000000000;mm1;mm9;)", "two(0, 0)");
        EDGE.due("WHICH: held at 0", 3, "tell(k0404040404;mm4;mm9;mm3;)", "rows(0, 0, 0, 0, 0)", "which(0, 0, 0)");
        EDGE.due("WHICH: KINDS held at 99", 58, "tell(k9999999999;)", "rows(99, 99, 99, 99, 99)", "which(0, 3, 1)");
        EDGE.due("LOTS: held at 99", 0, "tell(l9999999999;k9999999999;mh9;)", "lots(20, 1, 1)");
        EDGE.due("LOTS: WIGGLE, the most", 9900, "tell(l9999999999;k0000000000;mm9;)", "lots(20, 1, 1)");
        EDGE.due("WIGGLE, the most", 495, "tell(l9999999999;k0000000000;)", "key(0, 8)");
    }
}
