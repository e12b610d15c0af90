/** Full: 96 letters, 10 KEYS, 5 MACHINES, 12 numbers in the ROW, USES at 9999; one less, and what is still asked then. */
public final class FullTest {
    private static final Edge EDGE = new Edge("FullTest");
    /** KEYS 0 and 1 FROM none, eight copies of copies below KEY 1; every one OPENS but KEY 0. */
    private static final String[] TEN_KEYS = {"tell(k0000000000;k5050505050;mm0;)", "cut(1, 0)", "cut(2, 0)", "cut(3, 0)",
        "cut(4, 0)", "cut(5, 0)", "cut(6, 0)", "cut(7, 0)", "cut(8, 0)"};
    private static final String[] USED_UP = {"tell(k5050505050;k0000000000;x1;)", "101 x uses(0, 99)"};

    public static void main(String[] args) {
        letters();
        tenKeys();
        askedOfTenKeys();
        chainOfTen();
        nineChildren();
        tenthKey();
        fiveMachines();
        theRow();
        usedUp();
        image();
        EDGE.end();
    }

    private static void letters() {
        EDGE.due("the 95th letter", 95, "95 x letter(115)");
        EDGE.due("the 96th letter", 96, "95 x letter(115)", "letter(115)");
        EDGE.refused("no 97th letter", -6, "96 x letter(115)", "letter(115)");
        EDGE.refused("no 97th letter, the least one", -6, "96 x letter(115)", "letter(0)");
        EDGE.refused("no 97th letter, the greatest one", -6, "96 x letter(115)", "letter(255)");
        EDGE.refused("no 97th letter, nor is it one", -6, "96 x letter(115)", "letter(256)");
        EDGE.refused("below comes ahead of no room", -4, "96 x letter(115)", "letter(-1)");
        EDGE.due("96 letters there are", 96, "96 x letter(115)", "letter(115)", "count(7)");
        EDGE.due("a LOCK of 96 letters", 32, "spell(" + "s1;".repeat(31) + "s8;)", "lock()");
        EDGE.due("the last STATEMENT of 96 letters", 8, "spell(" + "s1;".repeat(31) + "s8;)", "lock()", "count(3)");
        EDGE.due("a LOCK of 95 letters", 31, "tell(k5050505050;)", "spell(" + "s1;".repeat(30) + "u000;)", "lock()");
        EDGE.due("room again behind lock()", 1, "96 x letter(115)", "lock()", "letter(115)");
        EDGE.due("96 letters again", 96, "96 x letter(115)", "lock()", "96 x letter(115)");
        EDGE.fault("the 96th letter is not as it must be", -1095, "s1;".repeat(31) + "s1s");
        EDGE.fault("something lacks behind 96 letters", -1096, "s1;".repeat(31) + "c00");
        EDGE.fault("something lacks behind 95 letters", -1095, "s1;".repeat(31) + "s1");
        EDGE.fault("the last STATEMENT of 96 letters cannot be", -2093, "s1;".repeat(31) + "x0;");
    }

    private static void tenKeys() {
        EDGE.from(TEN_KEYS);
        EDGE.due("10 KEYS", 10, "count(0)");
        EDGE.refused("10 there are", -6, "cut(1, 0)");
        EDGE.refused("10 there are, from the last", -6, "cut(9, 0)");
        EDGE.refused("no such KEY comes ahead of no room", -1, "cut(10, 0)");
        EDGE.refused("no such MACHINE comes ahead of no room", -1, "cut(0, 1)");
        EDGE.refused("SNAPPED comes ahead of no room", -3, "snaps(0)", "cut(0, 0)");
        EDGE.fault("no room for k", -2000, "k5050505050;");
        EDGE.fault("no room for c", -2000, "c00;");
        EDGE.fault("no room for k behind others", -2003, "s1;k5050505050;s2;");
        EDGE.fault("no room for c behind others", -2005, "u000;c90;");
        EDGE.due("room for what is no KEY", 3, "spell(s1;mm4;u905;)", "lock()");
        EDGE.due("the last KEY", 50, "key(9, 4)");
        EDGE.refused("no KEY behind the last", -1, "key(10, 4)");
        EDGE.due("the last KEY's FROM", 8, "key(9, 5)");
        EDGE.due("the last KEY can be filed", 50, "files(9, 4, 99)");
        EDGE.due("the last KEY can be used", 1, "uses(9, 1)");
        EDGE.due("the last KEY can be snapped", 9, "snaps(9)");
        EDGE.due("the last KEY SNAPPED (bits)", 512, "snaps(9)", "count(4)");
        EDGE.due("all SNAPPED (bits)", 1023, "spell(x0;x1;x2;x3;x4;x5;x6;x7;x8;x9;)", "lock()", "count(4)");
        EDGE.due("all SNAPPED, one by one", 0, "spell(x0;x1;x2;x3;x4;x5;x6;x7;x8;)", "lock()", "snaps(9)");
    }

    private static void askedOfTenKeys() {
        EDGE.due("OPENING ones", 1022, "opening()");
        EDGE.due("how many OPEN", 9, "count(5)");
        EDGE.due("DEPTH, the most", 8, "family(9, 0)");
        EDGE.due("ROOT, the farthest", 1, "family(9, 1)");
        EDGE.due("HEIRS, the most", 1022, "family(1, 3)");
        EDGE.due("HEIRS of the last", 512, "family(9, 3)");
        EDGE.due("COMMON of the last two", 8, "common(8, 9)");
        EDGE.due("COMMON of the first and the last", 1, "common(9, 1)");
        EDGE.due("COMMON with another ROOT", -9, "common(0, 9)");
        EDGE.due("NEXT without room for it", 10, "next(0)");
        EDGE.due("that WIGGLE without room for it", 0, "next(1)");
        EDGE.due("IN A ROW without room for it", 30, "inRow(9, 0, 0)");
        EDGE.due("LINE, the most", 9, "line(1)");
        EDGE.due("BEST LINE", 1, "bestLine()");
        EDGE.due("ASK from the last", 8, "ask(9)");
        EDGE.due("SPARE", 2, "spare()");
        EDGE.due("SPARE, the last alone", 512, "tell(l9999999999;)", "7 x files(9, 0, 99)", "files(9, 1, 99)",
            "files(9, 2, 99)", "files(9, 3, 99)", "files(9, 4, 99)", "spare()");
        EDGE.due("how many OPEN with PINS ANEW", 9, "anew(-1)");
        EDGE.due("the greatest set", 50, "first(1023, 0)");
        EDGE.refused("a set above the greatest", -6, "first(1024, 0)");
        EDGE.due("the greatest set", 5, "unlike(1023, 0)");
        EDGE.refused("a set above the greatest", -6, "unlike(1024, 0)");
        EDGE.from();
    }

    private static void chainOfTen() {
        EDGE.from("tell(k5050505050;mm0;c00;c10;c20;c30;c40;c50;c60;c70;c80;)");
        for (int key = 0; key < 10; key++) {
            EDGE.due("DEPTH, as many as are ahead", key, "family(" + key + ", 0)");
            EDGE.due("ROOT, however far", 0, "family(" + key + ", 1)");
            EDGE.due("CHILDREN, the last has none", key == 9 ? 0 : 1, "family(" + key + ", 2)");
            EDGE.due("HEIRS, however far", 1024 - (1 << key), "family(" + key + ", 3)");
            EDGE.due("LINE, however far", 10 - key, "line(" + key + ")");
            EDGE.due("COMMON, it may be the one itself", key, "common(" + key + ", 9)");
            EDGE.due("COMMON, it may be the other itself", key, "common(9, " + key + ")");
        }
        EDGE.due("BEST LINE, ten in one", 0, "bestLine()");
        EDGE.due("OPENING ones, all ten", 1023, "opening()");
        EDGE.due("how many OPEN, all ten", 10, "count(5)");
        EDGE.due("how many OPEN with PINS ANEW, all ten", 10, "anew(-1)");
        EDGE.due("DEPTH, SNAPPED ones ahead no matter", 9, "snaps(0)", "snaps(5)", "family(9, 0)");
        EDGE.due("HEIRS, SNAPPED ones no matter", 1023, "snaps(0)", "snaps(5)", "family(0, 3)");
        EDGE.due("LINE, without SNAPPED ones", 8, "snaps(0)", "snaps(5)", "line(0)");
        EDGE.due("LOTS of ten", 20, "lots(20, 1, 0)");
        EDGE.from();
    }

    private static void nineChildren() {
        EDGE.from("tell(k5050505050;mm0;)", "9 x cut(0, 0)");
        EDGE.due("CHILDREN, the most", 9, "family(0, 2)");
        EDGE.due("HEIRS, all of them", 1023, "family(0, 3)");
        EDGE.due("CHILDREN of one of them", 0, "family(9, 2)");
        EDGE.due("COMMON of two of them", 0, "common(8, 9)");
        EDGE.due("ASK, from the last one", 0, "ask(9)");
        EDGE.due("ASK, from the last one, a sister", 1, "snaps(0)", "ask(9)");
        EDGE.due("ASK, from the last one, the only sister", 8, "spell(x0;x1;x2;x3;x4;x5;x6;x7;)", "lock()", "ask(9)");
        EDGE.due("ASK, from the first, its last child", 9, "spell(x1;x2;x3;x4;x5;x6;x7;x8;)", "lock()", "ask(0)");
        EDGE.from();
    }

    private static void tenthKey() {
        EDGE.from(TEN_KEYS[0], "6 x cut(1, 0)", "tell(k1111111111;)");
        EDGE.due("9 KEYS", 9, "count(0)");
        EDGE.due("the 10th KEY is CUT", 9, "cut(0, 0)");
        EDGE.due("the 10th KEY comes by k", 22, "tell(k2222222222;)", "key(9, 0)");
        EDGE.due("the 10th KEY comes by c", 11, "tell(c80;)", "key(9, 0)");
        EDGE.fault("the 11th KEY by k", -2012, "k2222222222;k3333333333;");
        EDGE.fault("the 11th KEY by c", -2004, "c00;c00;");
        EDGE.fault("the 11th KEY by c behind k", -2012, "k2222222222;c90;");
        EDGE.fault("KEY 9 is not there ahead of it", -2000, "c90;k2222222222;");
        EDGE.due("KEY 9 is there behind it", 3, "spell(k2222222222;u999;x9;)", "lock()");
        EDGE.from();
    }

    private static void fiveMachines() {
        EDGE.from("tell(k5555555555;mm1;mh2;mw3;mr4;)");
        EDGE.due("the 5th MACHINE", 1, "spell(ms9;)", "lock()");
        EDGE.fault("the 6th MACHINE in one text", -2004, "ms0;mg0;");
        EDGE.fault("MACHINE 4 is not there ahead of it", -2000, "c04;ms0;");
        EDGE.due("MACHINE 4 is there behind it", 2, "spell(ms0;c04;)", "lock()");
        EDGE.from("tell(k5555555555;mm1;mh2;mw3;mr4;ms9;)");
        EDGE.due("5 MACHINES", 5, "count(1)");
        EDGE.fault("the 6th MACHINE", -2000, "mg0;");
        EDGE.fault("the 6th MACHINE behind others", -2003, "s1;mm0;s1;");
        EDGE.fault("MACHINE 5 can never be", -2000, "c05;");
        EDGE.fault("MACHINE 9 can never be", -2000, "c09;");
        EDGE.due("the last MACHINE's KIND", 4, "machine(4, 0)");
        EDGE.due("the last MACHINE's FIGURE", 9, "machine(4, 1)");
        EDGE.refused("no MACHINE behind the last", -1, "machine(5, 0)");
        EDGE.due("the last MACHINE is turned", 49, "turn(4, 5, 0)");
        EDGE.refused("none behind the last is turned", -1, "turn(5, 5, 0)");
        EDGE.due("the last MACHINE cuts", 1, "cut(0, 4)");
        EDGE.refused("none behind the last cuts", -1, "cut(0, 5)");
        EDGE.due("NEXT by the last MACHINE", 4, "turn(3, 1, 0)", "turn(4, 0, 5)", "next(0)");
        EDGE.due("WHICH, the last MACHINE (bits)", 16, "rows(64, 65, 66, 67, 68)", "which(0, 0, 0)");
        EDGE.due("WHICH, all MACHINES (bits)", 31, "turn(0, 5, 0)", "turn(1, 5, 1)", "turn(2, 5, 2)", "turn(3, 5, 3)",
            "turn(4, 5, 4)", "rows(50, 50, 50, 50, 50)", "which(0, 0, 0)");
        EDGE.due("TWO, the last MACHINE first", 43, "two(0, 0)");
        EDGE.due("TWO, the last MACHINE for both", 44, "files(0, 0, 46)", "turn(0, 1, 1)", "turn(1, 1, 1)",
            "turn(2, 1, 1)", "turn(3, 1, 1)", "turn(4, 5, 0)", "two(0, 0)");
        EDGE.from();
    }

    private static void theRow() {
        EDGE.from("tell(k5051525354;mm0;)");
        EDGE.due("the 11th number", 11, "10 x row(0)", "row(0)");
        EDGE.due("the 12th number", 12, "11 x row(0)", "row(0)");
        EDGE.refused("no 13th number", -6, "12 x row(0)", "row(0)");
        EDGE.refused("no 13th number, nor is it one", -6, "12 x row(0)", "row(100)");
        EDGE.refused("below comes ahead of no room", -4, "12 x row(0)", "row(-1)");
        EDGE.due("12 there are", 12, "12 x row(0)", "row(0)", "count(6)");
        EDGE.due("12 there were", 12, "12 x row(0)", "clear()");
        EDGE.due("room again behind clear()", 1, "12 x row(0)", "clear()", "row(0)");
        EDGE.due("room again behind judge()", 1, "12 x row(0)", "judge(0)", "row(0)");
        EDGE.due("12 JUDGED: the first of them is not so", 0, "12 x row(0)", "judge(0)");
        EDGE.due("12 JUDGED: the first beyond TEETH is not so", 5, "rows(50, 51, 52, 53, 54)", "7 x row(54)", "judge(0)");
        EDGE.refused("WHICH of 12 numbers", -3, "12 x row(50)", "which(0, 0, 0)");
        EDGE.refused("WHICH of 6 numbers", -3, "rows(50, 51, 52, 53, 54, 50)", "which(0, 0, 0)");
        EDGE.refused("WHICH of 4 numbers", -3, "rows(50, 51, 52, 53)", "which(0, 0, 1)");
        EDGE.due("WHICH of 5 numbers", 1, "rows(50, 51, 52, 53, 54)", "which(0, 0, 0)");
        EDGE.from();
    }

    private static void usedUp() {
        EDGE.from(USED_UP);
        EDGE.due("USES 9999", 9999, "count(2)");
        EDGE.refused("USES above 9999", -6, "uses(0, 1)");
        EDGE.refused("USES far above 9999", -6, "uses(0, 99)");
        EDGE.refused("n below 1 comes ahead of it", -4, "uses(0, 0)");
        EDGE.refused("USES above 9999 come ahead of SNAPPED", -6, "uses(1, 1)");
        EDGE.refused("no such KEY comes ahead of it", -1, "uses(2, 1)");
        EDGE.fault("USES above 9999", -2000, "u001;");
        EDGE.fault("USES above 9999 behind others", -2003, "s1;u099;");
        EDGE.due("0 more are not above it", 1, "spell(u000;)", "lock()");
        EDGE.due("the KEY is worn down", 0, "key(0, 0)");
        EDGE.due("the PIN is worn down", 0, "pin(0)");
        EDGE.due("LASTS is reckoned all the same", -9, "lasts(0)");
        EDGE.from(USED_UP[0], "100 x uses(0, 99)", "uses(0, 98)");
        EDGE.due("USES 9998", 9998, "count(2)");
        EDGE.due("the last use", 1, "uses(0, 1)");
        EDGE.due("the last use: USES", 9999, "uses(0, 1)", "count(2)");
        EDGE.refused("one too many", -6, "uses(0, 2)");
        EDGE.due("the last use by u", 9999, "tell(u001;)", "count(2)");
        EDGE.fault("one too many by u", -2000, "u002;");
        EDGE.fault("one too many by two of u", -2005, "u001;u001;");
        EDGE.from();
    }

    private static void image() {
        EDGE.from(USED_UP);
        EDGE.due("THE IMAGE at USES 9999", 9999, "image()");
        EDGE.due("ON from it", 9999, "image()", "on()");
        EDGE.refused("USES above 9999 as then", -6, "image()", "on()", "uses(0, 1)");
        EDGE.from("tell(k5050505050;)", "image()", "101 x uses(0, 99)");
        EDGE.due("USES are as in THE IMAGE", 0, "on()");
        EDGE.due("it can be used again", 1, "on()", "uses(0, 1)");
        EDGE.from(TEN_KEYS);
        EDGE.due("ten KEYS are in THE IMAGE", 10, "image()", "files(9, 0, 1)", "on()", "count(0)");
        EDGE.due("the last of ten is as then", 50, "image()", "files(9, 0, 1)", "on()", "key(9, 0)");
        EDGE.from("image()", TEN_KEYS[0], "8 x cut(1, 0)");
        EDGE.due("room again for KEYS", 0, "on()", "tell(k1111111111;)", "family(0, 1)");
        EDGE.from("image()", "tell(mm1;mh2;mw3;mr4;ms9;)");
        EDGE.due("room again for MACHINES", 5, "on()", "tell(mm1;mh2;mw3;mr4;ms9;)", "count(1)");
        EDGE.from();
    }
}
