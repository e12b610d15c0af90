/** Nothing there yet: no letters, no KEYS, no MACHINES, an empty ROW, no IMAGE; and the last of several gone. */
public final class NothingYetTest {
    private static final Edge EDGE = new Edge("NothingYetTest");
    private static final String KEY = "tell(k5150494852;)";
    private static final String MACHINES = "tell(mm1;mh2;)";

    public static void main(String[] args) {
        atFirst();
        noLetters();
        noKeys();
        noKeys("image()", "tell(k5050505050;k5151515151;mm1;mh1;)", "cut(0, 0)", "on()");
        noMachines(KEY);
        noMachines(KEY, "image()", "tell(k5050505050;mm1;mh1;)", "on()");
        onlyMachines(MACHINES);
        onlyMachines(MACHINES, "image()", "tell(k5050505050;mm1;)", "on()");
        onlySnapped();
        noRow();
        noImage();
        EDGE.end();
    }

    private static void atFirst() {
        for (int tooth = 0; tooth < 5; tooth++) {
            EDGE.due("PINS 50 each at first", 50, "pin(" + tooth + ")");
        }
        EDGE.due("SLACK 2 at first", 2, "count(3)");
        EDGE.due("USES 0 at first", 0, "count(2)");
        EDGE.due("no KEYS at first", 0, "count(0)");
        EDGE.due("no MACHINES at first", 0, "count(1)");
        EDGE.due("none SNAPPED at first", 0, "count(4)");
        EDGE.due("none OPENS at first", 0, "count(5)");
        EDGE.due("none in the ROW at first", 0, "count(6)");
        EDGE.due("no letters at first", 0, "count(7)");
        for (int refusal = 11; refusal <= 16; refusal++) {
            EDGE.due("no REFUSALS at first", 0, "count(" + refusal + ")");
        }
        EDGE.due("a KEY is not SNAPPED at first", 0, KEY, "key(0, 6)");
        EDGE.due("a copy is not SNAPPED at first", 0, KEY, "tell(mm0;)", "cut(0, 0)", "key(1, 6)");
        EDGE.due("the first KEY is 0", 51, KEY, "key(0, 0)");
        EDGE.due("the first MACHINE is 0", 7, "tell(mm7;)", "machine(0, 1)");
    }

    private static void noLetters() {
        EDGE.fault("at least one STATEMENT", -1000, "");
        EDGE.fault("at least one STATEMENT, again", -1000, "", "tell(s3;)");
        EDGE.fault("letters are no more", -1000, "", "tell(s3;)", "spell(q)", "lock()");
        EDGE.due("the first letter", 1, "letter(115)");
        EDGE.due("the first letter behind a LOCK", 1, "tell(s3;)", "letter(115)");
        EDGE.due("the first letter behind a FAULT", 1, "spell(s3)", "lock()", "letter(115)");
        EDGE.due("no letters behind a LOCK", 0, "tell(s3;)", "count(7)");
    }

    /** None at all, or none any more behind on(). */
    private static void noKeys(String... start) {
        EDGE.from(start);
        String[] calls = {"key(0, 0)", "files(0, 0, 0)", "cut(0, 0)", "uses(0, 1)", "snaps(0)", "family(0, 0)",
            "common(0, 0)", "inRow(0, 0, 0)", "lasts(0)", "fit(0)", "mend(0)", "line(0)", "ask(0)",
            "slip(0, 0, 0, 2, 0)", "two(0, 0)", "which(0, 0, 0)", "judge(0)"};
        for (String call : calls) {
            EDGE.refused("no such KEY", -1, call);
            EDGE.refused("no such KEY, though a MACHINE", -1, "tell(mm1;)", call);
        }
        EDGE.refused("a set of no such KEYS", -6, "first(1, 0)");
        EDGE.refused("a set of no such KEYS", -6, "unlike(1, 0)");
        EDGE.refused("an empty set", -4, "first(0, 0)");
        EDGE.refused("an empty set", -4, "unlike(0, 0)");
        EDGE.due("OPENING ones of none", 0, "opening()");
        EDGE.due("NEAREST of none", -9, "nearest()");
        EDGE.due("NEXT of none", -9, "next(0)");
        EDGE.due("that WIGGLE of none", -9, "next(1)");
        EDGE.due("BEST LINE of none", -9, "bestLine()");
        EDGE.due("SPARE of none", -9, "spare()");
        EDGE.due("how many OPEN of none", 0, "anew(-1)");
        for (int tooth = 0; tooth < 5; tooth++) {
            EDGE.due("within SLACK of none: the least PIN", 0, "anew(" + tooth + ")");
        }
        EDGE.refused("LOTS of nothing", -3, "lots(1, 0, 0)");
        EDGE.fault("no such KEY so far", -2000, "c00;", "tell(mm1;)");
        EDGE.fault("no such KEY so far", -2000, "u001;");
        EDGE.fault("no such KEY so far, used 0 times", -2000, "u000;");
        EDGE.fault("no such KEY so far", -2000, "x0;");
        EDGE.fault("no such KEY so far, though it comes", -2000, "x0;k5050505050;");
        EDGE.from();
    }

    private static void noMachines(String... start) {
        EDGE.from(start);
        String[] calls = {"machine(0, 0)", "turn(0, 0, 0)", "cut(0, 0)", "inRow(0, 0, 0)", "slip(0, 0, 0, 2, 0)"};
        for (String call : calls) {
            EDGE.refused("no such MACHINE", -1, call);
        }
        EDGE.due("NEXT without MACHINES", -9, "next(0)");
        EDGE.due("that WIGGLE without MACHINES", -9, "next(1)");
        EDGE.due("TWO without MACHINES", -9, "two(0, 0)");
        EDGE.due("TWO without MACHINES, the last of TEETH", -9, "two(0, 4)");
        EDGE.due("MACHINES that cut it so, of none", 0, "rows(51, 50, 49, 48, 52)", "which(0, 0, 0)");
        EDGE.due("KINDS that do, though no MACHINES", 7, "rows(51, 50, 49, 48, 52)", "which(0, 0, 1)");
        EDGE.refused("LOTS without MACHINES", -3, "lots(1, 0, 0)");
        EDGE.fault("no such MACHINE so far", -2000, "c00;");
        EDGE.fault("no such MACHINE so far, though it comes", -2000, "c00;mm0;");
        EDGE.from();
    }

    private static void onlyMachines(String... start) {
        EDGE.from(start);
        EDGE.due("NEXT without KEYS", -9, "next(0)");
        EDGE.due("that WIGGLE without KEYS", -9, "next(1)");
        EDGE.refused("LOTS without KEYS", -3, "lots(20, 7, 1)");
        EDGE.refused("TWO without KEYS", -1, "two(0, 0)");
        EDGE.due("a MACHINE there is", 2, "machine(1, 1)");
        EDGE.due("a MACHINE there is, turned", 12, "turn(1, 3, 3)");
        EDGE.from();
    }

    private static void onlySnapped() {
        EDGE.from("tell(k5050505050;k5151515151;mm1;x0;x1;)");
        EDGE.due("none OPENS", 0, "opening()");
        EDGE.due("NEAREST, all SNAPPED", -9, "nearest()");
        EDGE.due("NEXT, all SNAPPED", -9, "next(0)");
        EDGE.due("that WIGGLE, all SNAPPED", -9, "next(1)");
        EDGE.due("SPARE, all SNAPPED", -9, "spare()");
        EDGE.due("ASK, all SNAPPED", -9, "ask(0)");
        EDGE.due("PINS ANEW, all SNAPPED: how many OPEN", 0, "anew(-1)");
        EDGE.due("PINS ANEW, all SNAPPED: the least PIN", 0, "anew(0)");
        EDGE.due("BEST LINE, all SNAPPED: the least with none", 0, "bestLine()");
        EDGE.due("LINE, all SNAPPED", 0, "line(1)");
        EDGE.due("LASTS, SNAPPED: OPENS no more at once", 0, "lasts(0)");
        EDGE.due("FIT, SNAPPED no matter", 1, "fit(1)");
        EDGE.due("WIGGLE, SNAPPED no matter", 5, "key(1, 8)");
        EDGE.due("OPENS, SNAPPED", 0, "key(0, 7)");
        EDGE.due("SNAPPED", 1, "key(0, 6)");
        EDGE.due("SNAPPED ones (bits)", 3, "count(4)");
        EDGE.due("IN A ROW, a SNAPPED KEY is cut in mind", 2, "inRow(0, 0, 0)");
        EDGE.due("LOTS, a SNAPPED KEY is cut in mind", 20, "lots(20, 0, 0)");
        EDGE.due("TWO, a SNAPPED KEY is cut in mind", 0, "two(0, 0)");
        EDGE.due("WHICH, a SNAPPED KEY is cut in mind", 1, "rows(49, 49, 49, 49, 49)", "which(0, 0, 0)");
        EDGE.due("SLIP, a SNAPPED KEY is cut in mind", 1, "slip(0, 0, 1, 2, 0)");
        EDGE.due("SLIP, no copy of a SNAPPED KEY", 0, "slip(0, 0, 0, 2, 0)");
        EDGE.due("SLIP, 0 as 0 by 1", 1, "slip(0, 0, 0, 2, 1)");
        EDGE.due("THE FIRST ONE, of SNAPPED ones", 50, "first(3, 0)");
        EDGE.due("a SNAPPED KEY has FROM", -9, "key(1, 5)");
        EDGE.due("a SNAPPED KEY has DEPTH", 0, "family(1, 0)");
        EDGE.due("a SNAPPED KEY has COMMON with itself", 1, "common(1, 1)");
        EDGE.due("a SNAPPED KEY has COMMON with another", -9, "common(0, 1)");
        EDGE.due("a SNAPPED KEY is not unlike itself", 0, "unlike(2, 1)");
        EDGE.due("a SNAPPED KEY can be mended", 5, "mend(1)");
        EDGE.due("a SNAPPED KEY is JUDGED", 1, "rows(50, 51)", "judge(0)");
        EDGE.due("GOES FIRST, a SNAPPED KEY is cut in mind", 0, "inRow(1, 0, 1)");
        EDGE.due("KINDS, a SNAPPED KEY is cut in mind", 41, "rows(50, 50, 50, 50, 50)", "which(1, 1, 1)");
        EDGE.due("a SNAPPED KEY can be filed", 50, "files(0, 0, 9)");
        EDGE.due("none is not SNAPPED any more", 0, "tell(k5050505050;)", "snaps(2)");
        EDGE.refused("SNAPPED already", -3, "snaps(0)");
        EDGE.refused("SNAPPED, cut", -3, "cut(1, 0)");
        EDGE.refused("SNAPPED, used", -3, "uses(1, 1)");
        EDGE.fault("SNAPPED already, of c", -2000, "c00;");
        EDGE.fault("SNAPPED already, of u", -2000, "u001;");
        EDGE.fault("SNAPPED already, of u, 0 times", -2000, "u000;");
        EDGE.fault("SNAPPED already, of x", -2000, "x1;");
        EDGE.from();
    }

    private static void noRow() {
        EDGE.from(KEY, "tell(mm1;)");
        EDGE.due("JUDGED: an empty ROW", -9, "judge(0)");
        EDGE.due("none to clear", 0, "clear()");
        EDGE.due("none to clear, again", 0, "row(3)", "clear()", "clear()");
        EDGE.due("the ROW is none behind clear()", 1, "row(3)", "clear()", "row(4)");
        EDGE.due("the ROW is none behind judge(), right", 0, "row(51)", "judge(0)", "count(6)");
        EDGE.due("the ROW is none behind judge(), wrong", 0, "row(52)", "judge(0)", "count(6)");
        EDGE.due("the ROW is none behind judge(), beyond", 0, "rows(51, 50, 49, 48, 52, 0)", "judge(0)", "count(6)");
        EDGE.due("the ROW stays behind a judge() refused", 1, "row(52)", "judge(1)", "count(6)");
        EDGE.due("the ROW stays behind which()", 5, "rows(1, 1, 1, 1, 1)", "which(0, 0, 0)", "count(6)");
        EDGE.due("a first number alone, right", -9, "row(51)", "judge(0)");
        EDGE.due("a first number alone, wrong", 0, "row(50)", "judge(0)");
        EDGE.refused("WHICH of an empty ROW", -3, "which(0, 0, 0)");
        EDGE.refused("KINDS of an empty ROW", -3, "which(0, 0, 1)");
        EDGE.from();
    }

    private static void noImage() {
        EDGE.refused("there is none", -3, "on()");
        EDGE.refused("there is none, though KEYS", -3, KEY, "on()");
        EDGE.due("THE IMAGE of a new object", 0, "image()");
        EDGE.due("ON from that of a new object", 0, "image()", KEY, "tell(u029;)", "on()");
        EDGE.due("no KEYS in it", 0, "image()", KEY, "on()", "count(0)");
        EDGE.due("no MACHINES in it", 0, "image()", "tell(mm1;)", "on()", "count(1)");
        EDGE.due("PINS as at first", 50, "image()", "sets(0, 1)", "on()", "pin(0)");
        EDGE.due("SLACK as at first", 2, "image()", "slack(7)", "on()", "count(3)");
        EDGE.due("THE IMAGE is not in THE IMAGE: it stays", 0, "image()", "on()", "on()");
        EDGE.due("the ROW is not in it", 2, "row(1)", "image()", "row(2)", "on()", "count(6)");
        EDGE.due("letters are not in it", 2, "letter(1)", "image()", "letter(2)", "on()", "count(7)");
        EDGE.due("REFUSALS are not in it", 2, "pin(5)", "image()", "pin(5)", "on()", "count(11)");
        EDGE.due("a KEY that comes again is as a new one", 0, KEY, "image()", "tell(k5050505050;x1;)", "on()",
            "tell(k4444444444;)", "key(1, 6)");
        EDGE.due("its FROM is its own", -9, KEY, "tell(mm1;)", "image()", "cut(0, 0)", "on()", "tell(k4444444444;)",
            "key(1, 5)");
    }
}
