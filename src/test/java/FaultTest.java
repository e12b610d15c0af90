/** Both kinds of FAULT: at every letter of every STATEMENT, where something lacks, and of every sort that cannot be. */
public final class FaultTest {
    private static final Edge EDGE = new Edge("FaultTest");
    /** What may stand at each place of a STATEMENT: 0 a digit, k a letter of a KIND, all else itself. */
    private static final String[] SHAPES = {"l0000000000;", "k0000000000;", "mk0;", "c00;", "u000;", "s0;", "x0;"};
    private static final String[] RIGHT = {"l0099509901;", "k0099509901;", "mg9;", "c00;", "u099;", "s9;", "x1;"};
    /** Letters of each sort, those beside each sort, and the ends. */
    private static final char[] LETTERS = {0, 1, ' ', '/', '0', '9', ':', ';', '<', 'C', 'L', 'M', '`', 'b', 'c', 'd', 'g',
        'h', 'k', 'l', 'm', 'n', 'r', 's', 't', 'u', 'v', 'w', 'x', 'y', 127, 128, 176, 254, 255};
    private static final String KEY = "k5050505050;";

    public static void main(String[] args) {
        rightOnes();
        firstLetters();
        wrongLetters();
        lacking();
        behind();
        noSuchOne();
        snapped();
        usesAndRoom();
        firstKindFirst();
        allOrNothing();
        EDGE.end();
    }

    private static void shop() {
        EDGE.from("tell(" + KEY + "k5151515151;mm1;)", "image()");
    }

    private static void rightOnes() {
        shop();
        for (String right : RIGHT) {
            EDGE.due("one STATEMENT", 1, "spell(" + right + ")", "lock()");
            EDGE.due("the same twice", right.startsWith("x") ? -2003 : 2, "spell(" + right + right + ")", "lock()");
        }
        EDGE.due("all STATEMENTS", 7, "spell(" + String.join("", RIGHT) + ")", "lock()");
        String[] ends = {"l0000000000;", "l9999999999;", "k0000000000;", "k9999999999;", "mm0;", "mm9;", "u000;", "u099;",
            "s0;", "s9;", "c00;", "c10;", "x0;", "x1;"};
        for (String right : ends) {
            EDGE.due("the least and the greatest digits", 1, "spell(" + right + ")", "lock()");
        }
        for (int kind = 0; kind < 6; kind++) {
            EDGE.due("each KIND", kind, "tell(m" + "mhwrsg".charAt(kind) + "5;)", "machine(1, 0)");
        }
        EDGE.due("0 times: USES stay", 0, "tell(u000;)", "count(2)");
        EDGE.due("0 times: HEIGHTS stay", 50, "tell(u000;)", "key(0, 0)");
    }

    private static void firstLetters() {
        for (int c = 0; c < 256; c++) {
            boolean begins = "lkmcusx".indexOf(c) >= 0;
            EDGE.fault("a first letter", begins ? -1001 : -1000, String.valueOf((char) c));
            EDGE.fault("a first letter behind a STATEMENT", begins ? -1004 : -1003, "s2;" + (char) c);
        }
    }

    private static boolean fits(char shape, char letter) {
        return switch (shape) {
            case '0' -> letter >= '0' && letter <= '9';
            case 'k' -> "mhwrsg".indexOf(letter) >= 0;
            default -> letter == shape;
        };
    }

    private static void wrongLetters() {
        for (int i = 0; i < SHAPES.length; i++) {
            for (int place = 1; place < SHAPES[i].length(); place++) {
                for (char letter : LETTERS) {
                    if (!fits(SHAPES[i].charAt(place), letter)) {
                        String wrong = RIGHT[i].substring(0, place) + letter + RIGHT[i].substring(place + 1);
                        EDGE.fault("a letter with which none can go on", -1000 - place, wrong);
                        EDGE.fault("the same behind a STATEMENT", -1003 - place, "s2;" + wrong);
                        EDGE.fault("the same as the last letter", -1000 - place, wrong.substring(0, place + 1));
                    }
                }
            }
        }
    }

    private static void lacking() {
        for (String right : RIGHT) {
            for (int length = 1; length < right.length(); length++) {
                EDGE.fault("something lacks: the end", -1000 - length, right.substring(0, length));
                EDGE.fault("something lacks behind a STATEMENT: the end", -1003 - length, "s2;" + right.substring(0, length));
            }
        }
        EDGE.fault("at least one STATEMENT lacks: the end", -1000, "");
    }

    private static void behind() {
        shop();
        for (String right : RIGHT) {
            EDGE.fault("one letter too many", -1000 - right.length(), right + ";");
            EDGE.fault("one digit too many", -1000 - right.length(), right + "0");
            EDGE.fault("the next one only begun", -1001 - right.length(), right + "s");
            String longer = right.substring(0, right.length() - 1) + "0;";
            EDGE.fault("one digit too many ahead of ;", -1000 - right.length() + 1, longer);
        }
    }

    private static void noSuchOne() {
        shop();
        EDGE.due("the last KEY there is", 1, "spell(c10;)", "lock()");
        EDGE.fault("c: no such KEY", -2000, "c20;");
        EDGE.fault("c: no such KEY, the greatest digit", -2000, "c90;");
        EDGE.fault("c: no such MACHINE", -2000, "c01;");
        EDGE.fault("c: no such MACHINE, the greatest digit", -2000, "c09;");
        EDGE.fault("c: neither", -2000, "c21;");
        EDGE.fault("u: no such KEY", -2000, "u201;");
        EDGE.fault("u: no such KEY, 0 times", -2000, "u200;");
        EDGE.fault("x: no such KEY", -2000, "x2;");
        EDGE.due("c: the KEY comes ahead of it", 2, "spell(" + KEY + "c20;)", "lock()");
        EDGE.due("c: the KEY is CUT ahead of it", 2, "spell(c00;c20;)", "lock()");
        EDGE.due("c: the MACHINE comes ahead of it", 2, "spell(mh1;c01;)", "lock()");
        EDGE.due("u: the KEY comes ahead of it", 2, "spell(" + KEY + "u201;)", "lock()");
        EDGE.due("x: the KEY comes ahead of it", 2, "spell(" + KEY + "x2;)", "lock()");
        EDGE.fault("c: the KEY comes only behind it", -2000, "c20;" + KEY);
        EDGE.fault("c: the MACHINE comes only behind it", -2000, "c01;mh1;");
        EDGE.fault("u: the KEY comes only behind it", -2000, "u201;" + KEY);
        EDGE.fault("x: the KEY comes only behind it", -2000, "x2;" + KEY);
        EDGE.fault("the place is that of its first letter", -2003, "s1;c20;");
        EDGE.fault("the place is that of the first such STATEMENT", -2003, "s1;c20;x9;");
        EDGE.fault("the place is counted over long ones", -2015, KEY + "s1;x9;");
    }

    private static void snapped() {
        shop();
        EDGE.fault("c: SNAPPED ahead of it", -2003, "x0;c00;");
        EDGE.fault("u: SNAPPED ahead of it", -2003, "x0;u001;");
        EDGE.fault("u: SNAPPED ahead of it, 0 times", -2003, "x0;u000;");
        EDGE.fault("x: SNAPPED ahead of it", -2003, "x0;x0;");
        EDGE.due("SNAPPED behind c and u", 3, "spell(c00;u001;x0;)", "lock()");
        EDGE.due("another one is SNAPPED", 4, "spell(x1;c00;u001;x0;)", "lock()");
        EDGE.due("a copy of it is not SNAPPED", 4, "spell(c00;x0;c20;u201;)", "lock()");
        EDGE.due("FROM a SNAPPED one", 0, "tell(c00;x0;)", "key(2, 5)");
        EDGE.from("tell(" + KEY + "k5151515151;mm1;)", "snaps(0)");
        EDGE.fault("c: SNAPPED already", -2000, "c00;");
        EDGE.fault("u: SNAPPED already", -2000, "u001;");
        EDGE.fault("x: SNAPPED already", -2000, "x0;");
    }

    private static void usesAndRoom() {
        EDGE.from("tell(" + KEY + ")", "100 x uses(0, 99)");
        EDGE.due("USES 9999", 9999, "tell(u099;)", "count(2)");
        EDGE.fault("USES 10000", -2005, "u001;u099;");
        EDGE.due("USES 9999, one by one", 3, "spell(u098;u001;u000;)", "lock()");
        EDGE.fault("USES 10000, one by one", -2010, "u098;u001;u001;");
        EDGE.from("tell(mm0;mm1;mm2;)", "tell(" + KEY.repeat(8) + ")");
        EDGE.due("10 KEYS by k", 2, "spell(" + KEY + KEY + ")", "lock()");
        EDGE.due("10 KEYS by c", 2, "spell(c00;c00;)", "lock()");
        EDGE.fault("11 KEYS by k", -2024, KEY.repeat(3));
        EDGE.fault("11 KEYS by c", -2008, "c00;c00;c00;");
        EDGE.fault("11 KEYS by both", -2016, "c00;" + KEY + "c00;");
        EDGE.due("5 MACHINES", 2, "spell(mm0;mm0;)", "lock()");
        EDGE.fault("6 MACHINES", -2008, "mm0;mm0;mm0;");
    }

    private static void firstKindFirst() {
        shop();
        EDGE.fault("kind 1 behind kind 2", -1003, "x9;q");
        EDGE.fault("kind 1 behind kind 2: something lacks", -1005, "x9;s1");
        EDGE.fault("kind 1 in the same STATEMENT", -1003, "c99");
        EDGE.fault("kind 1 behind no room", -1024, "mm0;mm0;mm0;mm0;mm0;mm0;;");
        EDGE.fault("the first of two of kind 1", -1001, "sq;q");
        EDGE.fault("the first of two of kind 2", -2000, "x9;x8;");
    }

    private static void allOrNothing() {
        shop();
        String all = "l1020304050;k9999999999;mh9;c00;u199;s9;x1;";
        EDGE.due("without FAULT all of it comes", 7, "spell(" + all + ")", "lock()");
        EDGE.fault("with one of kind 2 nothing", -2043, all + "x1;");
        EDGE.fault("with one of kind 1 nothing", -1043, all + "q");
        EDGE.due("and a right one comes behind it", 7, "spell(" + all + "x1;)", "lock()", "spell(" + all + ")", "lock()");
        EDGE.due("the last of two of l stands", 22, "tell(l1111111111;l2222222222;)", "pin(4)");
        EDGE.due("the last of two of s stands", 3, "tell(s7;s3;)", "count(3)");
        EDGE.due("c is CUT from what u has left", 40, "tell(u099;c00;)", "key(2, 0)");
        EDGE.due("u wears what c has CUT", 40, "tell(c00;u299;)", "key(2, 0)");
        EDGE.due("u wears the PINS of l ahead of it", 95, "tell(l9999999999;u099;)", "pin(0)");
        EDGE.due("l behind u is as it is told", 99, "tell(u099;l9999999999;)", "pin(0)");
        EDGE.due("THE IMAGE stays as it was", 2, "tell(" + all + ")", "on()", "count(0)");
    }
}
