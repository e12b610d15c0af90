/** Of every number that a call takes: just below the least, the least, the greatest, just above, and the ends of int. */
public final class BoundsTest {
    private static final Edge EDGE = new Edge("BoundsTest");
    private static final int LEAST = Integer.MIN_VALUE;
    private static final int MOST = Integer.MAX_VALUE;
    /**
     * PINS 10 to 50, SLACK 4, USES 9; KEYS 0 and 3 are 1 above the PINS, 1 is 1 and 2 is 2 below; 2 is FROM 0, 3 FROM 1;
     * MACHINES m3 and h2; the ROW is as KEY 0. THE IMAGE has KEY 0 and m3 alone, PINS 50; much came behind the last LOCK.
     */
    private static final String[] RICH = {"tell(k1121314151;mm3;)", "image()", "tell(k0919293949;mr7;)", "sets(0, 10)",
        "sets(1, 20)", "sets(2, 30)", "sets(3, 40)", "sets(4, 50)", "slack(4)", "turn(1, 1, 2)", "cut(0, 0)", "cut(1, 1)",
        "uses(0, 9)", "rows(11, 21, 31, 41, 51)", "spell(s7;)"};

    public static void main(String[] args) {
        EDGE.from(RICH);
        letter();
        pinKeyMachine();
        setsSlackFiles();
        turnCut();
        usesSnaps();
        familyCommonNext();
        inRowLastsFitAnew();
        firstUnlike();
        mendLineAsk();
        slip();
        twoWhich();
        rowJudge();
        lots();
        count();
        EDGE.end();
    }

    /** A number (#) of a call: what the least and the greatest answer, and how those outside are refused. */
    private static void number(String call, int below, int least, long atLeast, int most, long atMost, int above) {
        for (int wrong : new int[] {least - 1, least - 32, LEAST + 32, LEAST}) {
            EDGE.refused("below the least", below, put(call, wrong));
        }
        EDGE.due("the least", atLeast, put(call, least));
        EDGE.due("the greatest", atMost, put(call, most));
        for (int wrong : new int[] {most + 1, most + 32, MOST - 31, MOST}) {
            EDGE.refused("above the greatest", above, put(call, wrong));
        }
    }

    private static String put(String call, int number) {
        return call.replace("#", String.valueOf(number));
    }

    private static void letter() {
        number("letter(#)", -4, 0, 4, 255, 4, -6);
    }

    private static void pinKeyMachine() {
        number("pin(#)", -1, 0, 10, 4, 50, -1);
        number("key(#, 0)", -1, 0, 11, 3, 11, -1);
        number("key(#, 9)", -1, 0, 0, 3, 0, -1);
        number("key(0, #)", -2, 0, 11, 9, 0, -2);
        int[] due = {8, 18, 28, 38, 48, 0, 0, 1, 10, 0};
        for (int what = 0; what < due.length; what++) {
            EDGE.due("each what", due[what], "key(2, " + what + ")");
        }
        number("machine(#, 0)", -1, 0, 0, 1, 1, -1);
        number("machine(#, 1)", -1, 0, 3, 1, 2, -1);
        number("machine(1, #)", -2, 0, 1, 1, 2, -2);
    }

    private static void setsSlackFiles() {
        number("sets(#, 7)", -1, 0, 10, 4, 50, -1);
        number("sets(2, #)", -4, 0, 30, 99, 30, -6);
        EDGE.due("the least PIN is set", 0, "sets(2, 0)", "pin(2)");
        EDGE.due("the greatest PIN is set", 99, "sets(2, 99)", "pin(2)");
        EDGE.due("what it was, the least", 0, "sets(2, 0)", "sets(2, 99)");
        EDGE.due("what it was, the greatest", 99, "sets(2, 99)", "sets(2, 0)");
        number("slack(#)", -4, 0, 4, 9, 4, -6);
        EDGE.due("the least SLACK is set", 0, "slack(0)", "count(3)");
        EDGE.due("the greatest SLACK is set", 9, "slack(9)", "count(3)");
        EDGE.due("what it was, the least", 0, "slack(0)", "slack(9)");
        EDGE.due("what it was, the greatest", 9, "slack(9)", "slack(0)");
        number("files(#, 0, 7)", -1, 0, 11, 3, 11, -1);
        number("files(0, #, 7)", -1, 0, 11, 4, 51, -1);
        number("files(1, 2, #)", -4, 0, 29, 99, 29, -6);
        EDGE.due("the least HEIGHT is filed", 0, "files(1, 2, 0)", "key(1, 2)");
        EDGE.due("the greatest HEIGHT is filed", 99, "files(1, 2, 99)", "key(1, 2)");
        EDGE.due("what it was, the least", 0, "files(1, 2, 0)", "files(1, 2, 99)");
        EDGE.due("what it was, the greatest", 99, "files(1, 2, 99)", "files(1, 2, 0)");
    }

    private static void turnCut() {
        number("turn(#, 0, 0)", -1, 0, 3, 1, 12, -1);
        number("turn(1, #, 0)", -2, 0, 12, 5, 12, -2);
        number("turn(1, 0, #)", -4, 0, 12, 9, 12, -6);
        EDGE.due("the least KIND and FIGURE", 0, "turn(1, 0, 0)", "turn(1, 5, 9)");
        EDGE.due("the greatest KIND and FIGURE", 59, "turn(1, 5, 9)", "turn(1, 0, 0)");
        EDGE.due("the greatest KIND", 5, "turn(1, 5, 9)", "machine(1, 0)");
        EDGE.due("the greatest FIGURE", 9, "turn(1, 5, 9)", "machine(1, 1)");
        number("cut(#, 0)", -1, 0, 4, 3, 4, -1);
        number("cut(0, #)", -1, 0, 4, 1, 4, -1);
    }

    private static void usesSnaps() {
        number("uses(#, 1)", -1, 0, 1, 3, 1, -1);
        // 99 times take 9 from the HEIGHTS and 4 from the PINS: 1 above becomes 4 below, just within SLACK.
        number("uses(0, #)", -4, 1, 1, 99, 1, -6);
        EDGE.due("used once", 10, "uses(0, 1)", "count(2)");
        EDGE.due("used 99 times", 108, "uses(0, 99)", "count(2)");
        EDGE.due("used 99 times, a HEIGHT", 42, "uses(0, 99)", "key(0, 4)");
        EDGE.due("used 99 times, a PIN", 46, "uses(0, 99)", "pin(4)");
        EDGE.refused("SNAPPED by snaps: snapped again", -3, "snaps(0)", "snaps(0)");
        EDGE.refused("SNAPPED by snaps: used", -3, "snaps(0)", "uses(0, 1)");
        EDGE.refused("SNAPPED by snaps: cut", -3, "snaps(0)", "cut(0, 0)");
        EDGE.due("not SNAPPED any more behind on()", 0, "snaps(0)", "on()", "key(0, 6)");
        number("snaps(#)", -1, 0, 3, 3, 3, -1);
    }

    private static void familyCommonNext() {
        number("family(#, 0)", -1, 0, 0, 3, 1, -1);
        number("family(#, 1)", -1, 0, 0, 3, 1, -1);
        number("family(#, 2)", -1, 0, 1, 3, 0, -1);
        number("family(#, 3)", -1, 0, 5, 3, 8, -1);
        number("family(1, #)", -2, 0, 0, 3, 10, -2);
        number("common(#, 0)", -1, 0, 0, 3, -9, -1);
        number("common(1, #)", -1, 0, -9, 3, 1, -1);
        number("next(#)", -2, 0, 21, 1, 0, -2);
    }

    private static void inRowLastsFitAnew() {
        number("inRow(#, 0, 0)", -1, 0, 1, 3, 1, -1);
        number("inRow(2, #, 0)", -1, 0, 0, 1, 3, -1);
        EDGE.due("GOES FIRST, by that KEY and that MACHINE", 3, "files(2, 3, 43)", "files(0, 0, 12)", "inRow(2, 1, 1)");
        EDGE.due("IN A ROW, by that KEY and that MACHINE", 0, "files(2, 3, 43)", "files(0, 0, 12)", "inRow(2, 1, 0)");
        number("inRow(1, 0, #)", -2, 0, 1, 1, 0, -2);
        number("lasts(#)", -1, 0, 110, 3, 110, -1);
        number("fit(#)", -1, 0, 1, 3, 1, -1);
        EDGE.due("FIT by a PIN set just now", 4, "sets(3, 37)", "fit(0)");
        EDGE.due("WORST by a PIN set just now", 3, "sets(3, 37)", "key(0, 9)");
        EDGE.due("the least FIT", 0, "tell(l1121314151;)", "fit(0)");
        EDGE.due("the greatest FIT", 99, "tell(l1120314100;)", "files(0, 4, 99)", "fit(0)");
        // -1 asks how many OPEN, so -2 is the first below.
        number("anew(#)", -1, -1, 4, 4, 47, -1);
        EDGE.due("the first of TEETH", 7, "anew(0)");
        EDGE.due("the least PIN", 0, "files(0, 0, 0)", "files(1, 0, 1)", "files(2, 0, 2)", "files(3, 0, 4)", "anew(0)");
        EDGE.due("the greatest PIN", 99, "slack(0)", "files(0, 0, 99)", "files(1, 0, 99)", "anew(0)");
    }

    private static void firstUnlike() {
        number("first(#, 0)", -4, 1, 10, 15, 10, -6);
        number("first(4, #)", -1, 0, 10, 4, 50, -1);
        number("unlike(#, 0)", -4, 1, 0, 15, 0, -6);
        number("unlike(1, #)", -1, 0, 0, 3, 0, -1);
        EDGE.due("the least CODE", 0, "files(0, 0, 0)", "first(1, 0)");
        EDGE.due("the greatest CODE", 90, "files(0, 0, 99)", "first(1, 0)");
        EDGE.due("unlike in all of TEETH", 5, "tell(k3111210199;)", "unlike(16, 0)");
    }

    private static void mendLineAsk() {
        number("mend(#)", -1, 0, 5, 3, 5, -1);
        number("line(#)", -1, 0, 2, 3, 1, -1);
        number("ask(#)", -1, 0, 2, 3, 1, -1);
    }

    private static void slip() {
        number("slip(#, 0, 0, 2, 0)", -1, 0, 1, 3, 1, -1);
        number("slip(1, #, 1, 3, 0)", -1, 0, 2, 1, 1, -1);
        number("slip(0, 0, #, 2, 0)", -4, 0, 1, 6, 0, -6);
        number("slip(1, 0, 1, #, 1)", -4, 2, 2, 20, 20, -6);
        number("slip(1, 0, 1, #, 0)", -4, 2, 1, 20, 19, -6);
        number("slip(1, 0, 1, 3, #)", -2, 0, 2, 1, 3, -2);
        // By m0 at SLACK 0 none may slip at all.
        EDGE.due("n and t the greatest, above", 47045881, "tell(mm0;s0;l1121314151;)", "slip(0, 2, 6, 20, 0)");
        EDGE.due("n and t the greatest, below", 64000000, "tell(mm0;s0;l1121314151;)", "slip(0, 2, 6, 20, 1)");
        EDGE.due("n 0 asks the KEY itself, not another", 0, "files(3, 0, 19)", "slip(3, 0, 0, 2, 0)");
        EDGE.due("n and t the least, below", 1, "slip(0, 0, 0, 2, 1)");
    }

    private static void twoWhich() {
        number("two(#, 0)", -1, 0, 10, 3, 10, -1);
        number("two(0, #)", -1, 0, 10, 4, 10, -1);
        for (int tooth = 0; tooth < 5; tooth++) {
            String filed = "files(0, " + tooth + ", 46)";
            String asked = "two(0, " + tooth + ")";
            // From 46 g comes highest for the one and lowest for the other; from all other HEIGHTS it does not.
            EDGE.due("TWO, by the HEIGHT of that one of TEETH", 11, "turn(0, 1, 1)", "turn(1, 5, 0)", filed, asked);
            EDGE.due("TWO, by the HEIGHT of that one of TEETH", 1, "turn(0, 1, 1)", "turn(1, 5, 0)", asked);
        }
        number("which(#, 0, 1)", -1, 0, 7, 3, 7, -1);
        number("which(0, #, 0)", -4, 0, 0, 9, 0, -6);
        number("which(0, #, 1)", -4, 0, 7, 9, 0, -6);
        EDGE.due("FIGURE 9", 1, "clear()", "rows(2, 12, 22, 32, 42)", "which(0, 9, 1)");
        EDGE.due("FIGURE no matter with MACHINES", 2, "which(1, 9, 0)");
        for (int tooth = 0; tooth < 5; tooth++) {
            String off = "files(1, " + tooth + ", " + (10 * tooth + 8) + ")";
            EDGE.due("one of TEETH alone is not so: MACHINES", 0, off, "which(1, 0, 0)");
            EDGE.due("one of TEETH alone is not so: KINDS", 0, off, "which(1, 2, 1)");
        }
        EDGE.due("all of TEETH are so: KINDS", 2, "which(1, 2, 1)");
        number("which(1, 0, #)", -2, 0, 2, 1, 0, -2);
        EDGE.refused("four numbers", -3, "clear()", "rows(11, 21, 31, 41)", "which(0, 0, 0)");
        EDGE.refused("six numbers", -3, "row(51)", "which(0, 0, 1)");
    }

    private static void rowJudge() {
        number("row(#)", -4, 0, 6, 99, 6, -6);
        number("judge(#)", -1, 0, -9, 3, -9, -1);
        EDGE.due("the least in the ROW", -9, "clear()", "files(0, 0, 0)", "row(0)", "judge(0)");
        EDGE.due("the greatest in the ROW", -9, "clear()", "files(0, 0, 99)", "row(99)", "judge(0)");
        EDGE.due("the first of TEETH is not so", 0, "clear()", "rows(12, 21, 31, 41, 51)", "judge(0)");
        EDGE.due("the last of TEETH is not so", 4, "clear()", "rows(11, 21, 31, 41, 52)", "judge(0)");
        EDGE.due("just beyond TEETH", 5, "row(0)", "judge(0)");
    }

    private static void lots() {
        EDGE.from("tell(k5150505050;mm0;)");
        number("lots(#, 0, 0)", -4, 1, 1, 20, 20, -6);
        number("lots(#, 0, 1)", -4, 1, 1, 20, 20, -6);
        number("lots(3, 0, #)", -2, 0, 3, 1, 3, -2);
        for (String z : new String[] {"least", "-1", "0", "1", "most"}) {
            EDGE.due("every seed", 20, "lots(20, " + z + ", 0)");
        }
        EDGE.from(RICH);
    }

    private static void count() {
        int[] due = {4, 2, 9, 4, 0, 4, 5, 3, -9, -9, -9, 0, 0, 0, 0, 0, 0, -9};
        for (int what = 0; what < due.length; what++) {
            EDGE.due("each what", due[what], "count(" + what + ")");
        }
        for (int what : new int[] {-1, -9, -11, 18, 32, 43, LEAST, MOST}) {
            EDGE.due("another what", -9, "count(" + what + ")");
        }
        String[] refused = {"pin(5)", "next(2)", "on()", "slack(-1)", "", "slack(10)"};
        for (int i = 0; i < refused.length; i++) {
            for (int j = 0; j < refused.length; j++) {
                if (!refused[j].isEmpty()) {
                    EDGE.from();
                    EDGE.due("each number by itself", i == j ? 3 : 0, "3 x " + refused[j], "count(" + (11 + i) + ")");
                }
            }
        }
        EDGE.due("-5 is never told", 0, "pin(5)", "on()", "slack(-1)", "slack(10)", "count(15)");
    }
}
