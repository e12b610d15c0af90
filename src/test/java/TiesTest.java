/** Several that are as good as one another: each "of several the least", "of two the lower", "the first", "the nearest". */
public final class TiesTest {
    private static final Edge EDGE = new Edge("TiesTest");
    private static final String FIFTY = "5050505050";

    public static void main(String[] args) {
        worst();
        nearest();
        next();
        goesFirst();
        pinsAnew();
        middle();
        common();
        bestLine();
        ask();
        spare();
        two();
        judged();
        EDGE.end();
    }

    private static void worst() {
        for (int one = 0; one < 5; one++) {
            for (int other = one + 1; other < 5; other++) {
                String above = "files(0, " + one + ", 57)";
                String below = "files(0, " + other + ", 43)";
                EDGE.due("WORST, two as far, one above", one, "tell(k5251525152;)", above, below, "key(0, 9)");
                EDGE.due("WORST, two as far, one below", one, "tell(k5251525152;)", "files(0, " + one + ", 43)",
                    "files(0, " + other + ", 57)", "key(0, 9)");
                EDGE.due("WORST, the other one farther", other, "tell(k5251525152;)", above,
                    "files(0, " + other + ", 42)", "key(0, 9)");
            }
        }
        EDGE.due("WORST, all as far", 0, "tell(k5149514951;)", "key(0, 9)");
        EDGE.due("WORST, none far at all", 0, "tell(k5050505050;)", "key(0, 9)");
    }

    private static void nearest() {
        EDGE.from("tell(k5151515151;k4949494949;k5550505050;)", "tell(k5050505050;)");
        EDGE.due("NEAREST, one alone", 3, "nearest()");
        EDGE.due("NEAREST, three as near", 0, "snaps(3)", "nearest()");
        EDGE.due("NEAREST, two as near", 1, "snaps(3)", "snaps(0)", "nearest()");
        EDGE.due("NEAREST, the last of them", 2, "snaps(3)", "snaps(0)", "snaps(1)", "nearest()");
        EDGE.due("NEAREST, a later one by 1 nearer", 1, "snaps(3)", "files(1, 0, 50)", "nearest()");
        EDGE.due("NEAREST, though others OPEN and it does not", 0, "snaps(3)", "files(0, 0, 54)", "files(0, 1, 50)",
            "files(0, 2, 50)", "files(0, 3, 50)", "files(0, 4, 50)", "nearest()");
        EDGE.from();
    }

    private static void next() {
        EDGE.due("NEXT, two MACHINES as good", 0, "tell(k5050505050;mm1;mh1;)", "next(0)");
        EDGE.due("NEXT, two KEYS as good", 0, "tell(k5151515151;k5151515151;mm1;)", "next(0)");
        EDGE.due("NEXT, by KEYS first, not by MACHINES", 1, "tell(k4848484848;k5151515151;mm1;mh2;)", "next(0)");
        EDGE.due("NEXT, that WIGGLE", 0, "tell(k4848484848;k5151515151;mm1;mh2;)", "next(1)");
        EDGE.due("NEXT, a later one by 1 better", 11, "tell(k4847484848;k4848484848;mm1;mh2;)", "next(0)");
        EDGE.due("NEXT, the first is SNAPPED", 10, "tell(k4848484848;k5151515151;mm1;mh2;x0;)", "next(0)");
        EDGE.due("NEXT, a bad KEY and a bad MACHINE make it good", 1, "tell(k4141414141;k5151515151;mm0;mh9;)", "next(0)");
    }

    private static void goesFirst() {
        EDGE.due("GOES FIRST, all at once", 0, "tell(k5050505050;mm1;)", "inRow(0, 0, 1)");
        EDGE.due("GOES FIRST, two at once", 1, "tell(k5149514951;mm1;)", "inRow(0, 0, 1)");
        EDGE.due("GOES FIRST, one above and one below at once", 1, "tell(k5052505050;mm0;s1;)", "files(0, 3, 48)",
            "inRow(0, 0, 1)");
        EDGE.due("GOES FIRST, a later one of TEETH in an earlier copy", 4, "tell(k5151515150;mm1;)", "inRow(0, 0, 1)");
        EDGE.due("GOES FIRST, not the one that is farthest", 0, "tell(k5050505040;mm3;)", "inRow(0, 0, 1)");
        EDGE.due("GOES FIRST, not as the KEY itself is", 2, "tell(k5350505050;mw3;)", "inRow(0, 0, 1)");
    }

    private static void pinsAnew() {
        for (int tooth = 0; tooth < 5; tooth++) {
            String asked = "anew(" + tooth + ")";
            EDGE.due("PINS ANEW, as many PINS as SLACK leaves", 48, "tell(k" + FIFTY + ";)", asked);
            EDGE.due("PINS ANEW, two KEYS apart", 10, "tell(k" + FIFTY + ";k1212121212;)", asked);
            EDGE.due("PINS ANEW, as many at both ends", 0, "tell(k9999999999;k0000000000;s0;)", asked);
            EDGE.due("PINS ANEW, one more, though higher", 97, "tell(k0000000000;k9999999999;k9999999999;)", asked);
        }
        EDGE.due("PINS ANEW, never below 0", 0, "tell(k0000000000;s9;)", "anew(0)");
        EDGE.due("PINS ANEW, never above 99", 90, "tell(k9999999999;s9;)", "anew(0)");
        EDGE.due("PINS ANEW, two just near enough", 50, "tell(k4848484848;k5252525252;)", "anew(0)");
        EDGE.due("PINS ANEW, two just too far", 46, "tell(k4848484848;k5353535353;)", "anew(0)");
        for (int key = 0; key < 3; key++) {
            int left = key == 0 ? 20 : 10;
            for (int tooth = 0; tooth < 5; tooth++) {
                EDGE.due("PINS ANEW, without a SNAPPED one", left, "tell(k1010101010;k2020202020;k3030303030;s0;x" + key + ";)",
                    "anew(" + tooth + ")");
            }
            EDGE.due("PINS ANEW, without a SNAPPED one, how many OPEN", 1,
                "tell(k1010101010;k2020202020;k3030303030;s0;x" + key + ";)", "anew(-1)");
        }
        EDGE.due("PINS ANEW, the least, though fewer OPEN then", 0, "tell(k1050101010;k5010505050;s0;)", "anew(-1)" );
        EDGE.due("PINS ANEW, the least leaves both open", 2, "tell(k4848484848;k5252525252;)", "anew(-1)");
    }

    private static void middle() {
        EDGE.from("tell(k3030303030;k1010101010;k4040404040;k2020202020;k2020202020;)");
        EDGE.due("THE FIRST ONE, one KEY", 40, "first(4, 0)");
        EDGE.due("THE FIRST ONE, of two the lower", 10, "first(3, 0)");
        EDGE.due("THE FIRST ONE, of two the lower, the other way round", 20, "first(12, 0)");
        EDGE.due("THE FIRST ONE, the middle one of three", 30, "first(7, 0)");
        EDGE.due("THE FIRST ONE, the lower middle one of four", 20, "first(15, 0)");
        EDGE.due("THE FIRST ONE, two as high", 20, "first(24, 0)");
        EDGE.due("THE FIRST ONE, two as high of five", 20, "first(31, 0)");
        EDGE.due("of two multiples of 10 the lower", 20, "files(1, 4, 25)", "first(2, 4)");
        EDGE.due("the multiple of 10 of the middle one, not the middle of those", 10, "files(0, 4, 16)", "files(1, 4, 14)",
            "first(3, 4)");
        EDGE.due("SNAPPED ones count", 10, "snaps(1)", "first(3, 0)");
        EDGE.from();
    }

    private static void common() {
        EDGE.from("tell(k5050505050;mm0;c00;c10;c20;c20;k5050505050;)");
        EDGE.due("COMMON, the nearest of three", 2, "common(3, 4)");
        EDGE.due("COMMON, the nearest of three, the other way round", 2, "common(4, 3)");
        EDGE.due("COMMON, it may be the one itself", 2, "common(2, 4)");
        EDGE.due("COMMON, it may be the other itself", 1, "common(3, 1)");
        EDGE.due("COMMON, both are the same", 3, "common(3, 3)");
        EDGE.due("COMMON, both are the same ROOT", 5, "common(5, 5)");
        EDGE.due("COMMON, none", -9, "common(5, 4)");
        EDGE.due("COMMON, SNAPPED no matter", 2, "snaps(2)", "common(3, 4)");
        EDGE.from();
    }

    private static void bestLine() {
        EDGE.due("BEST LINE, one each", 0, "tell(k5050505050;k5050505050;)", "bestLine()");
        EDGE.due("BEST LINE, none each", 0, "tell(k0050505050;k0050505050;)", "bestLine()");
        EDGE.due("BEST LINE, two each, one of them late", 0, "tell(k5050505050;k5050505050;mm0;c10;c00;)", "bestLine()");
        EDGE.due("BEST LINE, one more", 1, "tell(k5050505050;k5050505050;mm0;c10;)", "bestLine()");
        EDGE.due("BEST LINE, a copy that does not OPEN counts nothing", 0, "tell(k5050505050;k5050505050;mm3;c10;)",
            "bestLine()");
        EDGE.due("BEST LINE, the ROOT itself need not OPEN", 1, "tell(k5353535353;k5353535353;mm3;c10;)", "bestLine()");
        EDGE.due("BEST LINE, a copy is no ROOT", 0, "tell(k5353535353;mm3;c00;c10;)", "bestLine()");
    }

    private static void ask() {
        EDGE.from("tell(k5151515151;mm0;mm2;c00;c00;c10;c01;)");
        EDGE.due("ASK, parent, sister and child as near", 0, "ask(1)");
        EDGE.due("ASK, sister and child as near", 2, "snaps(0)", "ask(1)");
        EDGE.due("ASK, two sisters, the child SNAPPED", 4, "snaps(0)", "snaps(2)", "snaps(3)", "ask(1)");
        EDGE.due("ASK, sister, child, sister as near", 2, "snaps(0)", "ask(1)");
        EDGE.due("ASK, a child by 1 nearer", 3, "files(3, 0, 50)", "ask(1)");
        EDGE.due("ASK, a sister by 1 nearer", 4, "files(4, 4, 50)", "ask(1)");
        EDGE.due("ASK, the nearer one does not OPEN", 4, "files(0, 0, 40)", "files(2, 0, 53)", "files(3, 0, 53)", "ask(1)");
        EDGE.due("ASK, not the KEY itself, though nearest", 0, "files(1, 0, 50)", "ask(1)");
        EDGE.due("ASK, of the ROOT: children alone, as near", 1, "ask(0)");
        EDGE.due("ASK, of a copy's copy: its parent alone", 1, "ask(3)");
        EDGE.due("ASK, it is lost: SNAPPED no matter", 0, "snaps(1)", "ask(1)");
        EDGE.from();
        EDGE.due("ASK, another FROM none is not from the same one", -9, "tell(k5050505050;k5050505050;)", "ask(0)");
    }

    private static void spare() {
        EDGE.due("SPARE, each alone", 1, "tell(k5050505050;k5050505050;)", "spare()");
        EDGE.due("SPARE, the first SNAPPED", 2, "tell(k5050505050;k5050505050;x0;)", "spare()");
        EDGE.due("SPARE, pairs 0 and 3, 1 and 2", 6, "tell(k5000000000;k5050000000;k0000505050;k0050505050;)", "spare()");
        EDGE.due("SPARE, pairs 0 and 2, 0 and 1", 3, "tell(k5050000000;k0000505050;k0000505050;)", "spare()");
        EDGE.due("SPARE, one with greater bits than three", 8,
            "tell(k5000000000;k0050500000;k0000005050;k5050505050;)", "spare()");
        EDGE.due("SPARE, two with greater bits than three", 24,
            "tell(k5000000000;k0050500000;k0000005050;k5050500000;k0000005050;)", "snaps(2)", "spare()");
        EDGE.due("SPARE, one of TEETH of none", -9, "tell(k5050505000;k5050505000;)", "spare()");
    }

    private static void two() {
        EDGE.due("TWO, all MACHINES as good", 0, "tell(k5050505050;mm1;mm1;mm1;)", "two(0, 0)");
        EDGE.due("TWO, the first MACHINE by several", 10, "tell(k5050505050;mm1;mh1;mh1;mm1;)", "two(0, 0)");
        EDGE.due("TWO, the other MACHINE by several", 1, "tell(k5050505050;mh1;mm1;mm1;)", "two(0, 0)");
        EDGE.due("TWO, two steady ones as good: the first", 10, "tell(k5050505050;mg0;mm1;mh1;)", "files(0, 0, 52)",
            "two(0, 0)");
        EDGE.due("TWO, not steady as the other has better by MACHINE 0", 20, "tell(k5252525252;mm3;mg0;mh1;)", "two(0, 0)");
        EDGE.due("TWO, better by 1 is better", 12, "tell(k5050505050;mm1;mh1;mm2;)", "two(0, 0)");
        EDGE.due("TWO, at an odd one of TEETH", 0, "tell(k5050505050;mw9;mw1;)", "two(0, 1)");
        EDGE.due("TWO, at an odd one of TEETH, the other way round", 0, "tell(k5050505050;mw1;mw9;)", "two(0, 1)");
        EDGE.due("TWO, at an even one of TEETH", 10, "tell(k5050505050;mw9;mw1;)", "two(0, 2)");
    }

    private static void judged() {
        EDGE.from("tell(k5051525354;)");
        EDGE.due("JUDGED, the first of two", 1, "rows(50, 50, 50)", "judge(0)");
        EDGE.due("JUDGED, ahead of one beyond TEETH", 4, "rows(50, 51, 52, 53, 55, 50)", "judge(0)");
        EDGE.due("JUDGED, beyond TEETH, though as the first", 5, "rows(50, 51, 52, 53, 54, 50, 51)", "judge(0)");
        EDGE.due("JUDGED, all are so", -9, "rows(50, 51, 52, 53, 54)", "judge(0)");
        EDGE.due("JUDGED, all that are told are so", -9, "rows(50, 51, 52, 53)", "judge(0)");
        EDGE.from();
    }
}
