/** An object is used for at most 512 calls: up to the last of them it answers as at first. */
public final class CallsTest {
    private static final Edge EDGE = new Edge("CallsTest");

    public static void main(String[] args) {
        last("REFUSALS -1 are counted", 511, "511 x pin(5)", "count(11)");
        last("REFUSALS -2 are counted", 511, "511 x next(2)", "count(12)");
        last("REFUSALS -3 are counted", 511, "511 x on()", "count(13)");
        last("REFUSALS -4 are counted", 511, "511 x slack(-1)", "count(14)");
        last("REFUSALS -6 are counted", 511, "511 x slack(10)", "count(16)");
        last("REFUSALS of mend are counted", 511, "511 x mend(0)", "count(11)");
        last("REFUSALS of slip are counted", 511, "511 x slip(0, 0, 0, 2, 0)", "count(11)");
        last("letters beyond 96", 511 - 96, "511 x letter(59)", "count(16)");
        last("numbers beyond 12", 511 - 12, "511 x row(99)", "count(16)");
        last("a FAULT is no REFUSAL", 0, "511 x lock()", "count(11)");
        last("THE IMAGE is taken again and again", 0, "511 x image()", "on()");
        last("ON from it again and again", 0, "image()", "510 x on()", "count(13)");
        last("asked again and again", -9, "511 x nearest()", "nearest()");
        wornToTheEnd();
        lettersToTheEnd();
        EDGE.end();
    }

    /** The last call is the 512th. */
    private static void last(String sentence, long due, String... calls) {
        Used used = new Used();
        long answer = 0;
        for (String call : calls) {
            answer = used.ask(call);
        }
        EDGE.right(sentence, calls, answer, due);
        EDGE.right(sentence + ": calls", calls, used.calls(), 512);
    }

    private static void wornToTheEnd() {
        Used used = new Used();
        used.ask("tell(k9999999999;l9999999999;)");
        int calls = used.calls();
        for (int i = 0; calls + i < 511; i++) {
            long answer = used.ask("uses(0, 19)");
            String[] told = {"uses(0, 19)"};
            EDGE.right("one lower each time, the PINS stay", told, answer, i < 2 ? 1 : 0);
        }
        EDGE.right("USES at the last call", new String[] {"count(2)"}, used.ask("count(2)"), 19L * (511 - calls));
    }

    private static void lettersToTheEnd() {
        Used used = new Used();
        for (int text = 0; text < 5; text++) {
            used.spell(("s" + text + ";").repeat(32));
            EDGE.right("96 letters again", new String[] {"count(7)"}, used.ask("count(7)"), 96);
            EDGE.right("96 letters become a LOCK again", new String[] {"lock()"}, used.ask("lock()"), 32);
        }
        used.spell("s0;s8;s1;s6;s5;");
        EDGE.right("the last LOCK", new String[] {"lock()"}, used.ask("lock()"), 5);
        EDGE.right("its SLACK", new String[] {"count(3)"}, used.ask("count(3)"), 5);
    }
}
