/** Promises 1 to 3: a new object, letter, lock. */
public final class LettersTest {
    private static final Check CHECK = new Check("LettersTest");
    private static final String KEY = "k5050505050;";

    public static void main(String[] args) {
        newObject();
        letters();
        statements();
        laterTexts();
        shapes();
        senses();
        room();
        faultsChangeNothing();
        CHECK.end();
    }

    private static void newObject() {
        Counted x = new Counted();
        int[] due = {0, 0, 0, 2, 0, 0, 0, 0, -9, -9, -9, 0, 0, 0, 0, 0, 0};
        for (int what = 0; what < due.length; what++) {
            CHECK.due("new: count(" + what + ")", x.count(what), due[what]);
        }
        CHECK.pins("new", x, 50, 50, 50, 50, 50);
        CHECK.refused("new: key(0, 0)", x, -1, () -> x.key(0, 0));
        CHECK.refused("new: machine(0, 0)", x, -1, () -> x.machine(0, 0));
        CHECK.refused("new: on()", x, -3, x::on);
    }

    private static void letters() {
        Counted x = new Counted();
        CHECK.refused("letter(-1)", x, -4, () -> x.letter(-1));
        CHECK.refused("letter(least)", x, -4, () -> x.letter(Integer.MIN_VALUE));
        CHECK.refused("letter(256)", x, -6, () -> x.letter(256));
        CHECK.refused("letter(greatest)", x, -6, () -> x.letter(Integer.MAX_VALUE));
        CHECK.due("letter(0)", x.letter(0), 1);
        CHECK.due("letter(255)", x.letter(255), 2);
        for (int n = 3; n <= 96; n++) {
            CHECK.due("letter " + n, x.letter('s'), n);
        }
        CHECK.due("count(7)", x.count(7), 96);
        CHECK.refused("letter 97", x, -6, () -> x.letter('s'));
        CHECK.refused("letter(-1), full", x, -4, () -> x.letter(-1));
        CHECK.due("lock()", x.lock(), -1000);
        CHECK.due("letter behind lock()", x.letter('s'), 1);
    }

    private static void statements() {
        Counted x = new Counted();
        CHECK.due("l", Check.tell(x, "l0001509899;"), 1);
        CHECK.pins("l", x, 0, 1, 50, 98, 99);
        CHECK.due("k", Check.tell(x, "k0009509099;"), 1);
        CHECK.heights("k", x, 0, 0, 9, 50, 90, 99);
        CHECK.due("k: FROM", x.key(0, 5), -9);
        CHECK.due("k: SNAPPED", x.key(0, 6), 0);
        CHECK.due("all KINDS but g", Check.tell(x, "mm0;mh1;mw2;mr3;ms9;"), 5);
        for (int machine = 0; machine < 5; machine++) {
            CHECK.due("KIND " + machine, x.machine(machine, 0), machine);
            CHECK.due("FIGURE " + machine, x.machine(machine, 1), machine == 4 ? 9 : machine);
        }
        CHECK.due("g", Check.told("mg5;").machine(0, 0), 5);
        CHECK.due("s", Check.tell(x, "s0;"), 1);
        CHECK.due("s: SLACK", x.count(3), 0);
        CHECK.due("s9", Check.tell(x, "s9;"), 1);
        CHECK.due("s9: SLACK", x.count(3), 9);
        CHECK.due("c", Check.tell(x, "c01;"), 1);
        CHECK.heights("c", x, 1, 1, 10, 51, 91, 99);
        CHECK.due("c: FROM", x.key(1, 5), 0);
        CHECK.due("u", Check.tell(x, "u039;"), 1);
        CHECK.heights("u", x, 0, 0, 6, 47, 87, 96);
        CHECK.heights("u, another", x, 1, 1, 10, 51, 91, 99);
        CHECK.pins("u", x, 0, 0, 49, 97, 98);
        CHECK.due("u: USES", x.count(2), 39);
        CHECK.due("u, 0 times", Check.tell(x, "u000;"), 1);
        CHECK.heights("u, 0 times", x, 0, 0, 6, 47, 87, 96);
        CHECK.due("u, 0 times: USES", x.count(2), 39);
        CHECK.due("x", Check.tell(x, "x1;"), 1);
        CHECK.due("x: SNAPPED ones", x.count(4), 2);
        CHECK.due("letters are no more", x.count(7), 0);
        CHECK.due("several", Check.tell(x, "k1111111111;c23;u299;x2;x3;s4;l2222222222;"), 7);
        CHECK.heights("several: used", x, 2, 2, 2, 2, 2, 2);
        CHECK.heights("several: cut ahead of it", x, 3, 10, 10, 10, 10, 10);
        CHECK.due("several: SNAPPED ones", x.count(4), 14);
        CHECK.pins("several: the last one told", x, 22, 22, 22, 22, 22);
    }

    private static void laterTexts() {
        Counted x = Check.told(KEY, "mm1;");
        CHECK.due("a KEY told ahead", Check.tell(x, "c00;c10;"), 2);
        CHECK.heights("a KEY told ahead", x, 2, 48, 48, 48, 48, 48);
        CHECK.due("no such KEY yet", Check.tell(x, "c30;"), -2000);
        CHECK.due("a KEY that the text brings", Check.tell(x, KEY + "c30;"), 2);
        CHECK.due("96 letters", Check.tell(x, "s1;".repeat(32)), 32);
        CHECK.due("96 letters: SLACK", x.count(3), 1);
    }

    private static void shapes() {
        String[] texts = {"", ";", "q", "L", " s1;", "l", "k", "m", "c", "u", "s", "x", "l;", "k505050505;",
            "k50505050500;", "k5050505050", "k505050505x;", "mm", "mm0", "mm;", "mz0;", "m0;", "mm00;", "c", "c0", "c00",
            "c0;", "c000;", "cm0;", "u00;", "u0000;", "u000", "s;", "s12;", "s1", "x;", "x00;", "x0", "s1;;", "s1;q",
            "s1;s", "s1;s1", "s1 ;", "x0;q", "s1;x0;c", "mm0;mm0;mm0;mm0;mm0;mm0;mx0;"};
        int[] places = {0, 0, 0, 0, 0, 1, 1, 1, 1, 1, 1, 1, 1, 10,
            11, 11, 10, 2, 3, 2, 1, 1, 3, 1, 2, 3,
            2, 3, 1, 3, 4, 4, 1, 2, 2, 1, 2, 2, 3, 3,
            4, 5, 2, 3, 7, 25};
        CHECK.due("as many places as texts", places.length, texts.length);
        for (int i = 0; i < texts.length; i++) {
            fault(new Counted(), texts[i], -1000 - places[i]);
        }
        for (int c = 0; c < 256; c++) {
            String begins = "lkmcusx";
            fault(new Counted(), String.valueOf((char) c), begins.indexOf(c) >= 0 ? -1001 : -1000);
            boolean digit = c >= '0' && c <= '9';
            fault(new Counted(), "s" + (char) c, digit ? -1002 : -1001);
            fault(new Counted(), "s1" + (char) c + "q", c == ';' ? -1003 : -1002);
            fault(new Counted(), "m" + (char) c, "mhwrsg".indexOf(c) >= 0 ? -1002 : -1001);
        }
        fault(new Counted(), "s1;".repeat(31) + "s1s", -1095);
        fault(new Counted(), "s1;".repeat(31) + "x0", -1095);
        fault(new Counted(), "s1;".repeat(31) + "c00", -1096);
    }

    private static void senses() {
        fault(new Counted(), "x0;", -2000);
        fault(new Counted(), "s1;u001;", -2003);
        fault(new Counted(), "s1;" + KEY + "x1;", -2015);
        fault(new Counted(), KEY + "c00;", -2012);
        fault(new Counted(), "mm0;c00;", -2004);
        fault(new Counted(), KEY + "mm0;c01;", -2016);
        fault(new Counted(), "x0;" + KEY, -2000);
        fault(new Counted(), KEY + "x0;x0;", -2015);
        fault(new Counted(), KEY + "x0;u000;", -2015);
        fault(new Counted(), KEY + "mm0;x0;c00;", -2019);
        fault(new Counted(), KEY + "u950;", -2012);
        fault(Check.told(KEY, "x0;"), "s1;x0;", -2003);
        CHECK.due("the copy of a KEY that is SNAPPED then", Check.tell(Check.told(KEY, "mm0;"), "c00;x0;c10;u101;"), 4);
    }

    private static void room() {
        Counted full = Check.told(KEY.repeat(8), KEY);
        CHECK.due("the 10th KEY and one more", Check.tell(full, KEY + "s1;" + KEY), -2015);
        CHECK.due("nine KEYS still", full.count(0), 9);
        CHECK.due("the 10th KEY", Check.tell(full, KEY + "mm0;"), 2);
        fault(full, KEY, -2000);
        fault(full, "s1;c90;", -2003);
        Counted machines = Check.told("mm0;mm1;mm2;mm3;");
        fault(machines, "mm4;mm5;", -2004);
        CHECK.due("the 5th MACHINE", Check.tell(machines, "mm4;"), 1);
        fault(machines, "mm5;", -2000);
        Counted used = Check.told(KEY);
        for (int i = 0; i < 100; i++) {
            used.uses(0, 99);
        }
        fault(used, "u050;u050;", -2005);
        CHECK.due("USES 9999", Check.tell(used, "u050;u049;"), 2);
        CHECK.due("USES 9999: count(2)", used.count(2), 9999);
        fault(used, "u001;", -2000);
        CHECK.due("0 times more", Check.tell(used, "u000;"), 1);
    }

    private static void faultsChangeNothing() {
        Counted x = Check.told("k1122334455;k5050505050;mh2;", "x1;");
        fault(x, "l1010101010;k1010101010;mm1;c00;u099;s9;x0;x1;", -2043);
        fault(x, "l1010101010;k1010101010;mm1;c00;u099;s9;x0;xx", -1044);
        CHECK.due("letters behind a fault", x.letter('s'), 1);
    }

    /** A text with a fault: its answer, no letter left, nothing changed and no refusal counted. */
    private static void fault(Counted x, String text, int answer) {
        CHECK.unchanged("lock() of " + text, x, answer, () -> Check.tell(x, text));
    }
}
