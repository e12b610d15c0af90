import java.util.function.LongSupplier;

/** Compares answers with those that are due, and ends the test with exit code 1 if one was not. */
final class Check {
    private final String name;
    private int asked;
    private int wrong;

    Check(String name) {
        this.name = name;
    }

    void due(String call, long got, long want) {
        asked++;
        if (got != want) {
            wrong++;
            System.out.println(name + ": " + call + " answered " + got + ", due is " + want);
        }
    }

    /** A call that must be refused: its answer, one refusal of that number more, and nothing else changed. */
    void refused(String call, Counted x, int number, long answer, LongSupplier asks) {
        changesNothing(call, x, number, answer, asks);
    }

    void refused(String call, Counted x, int number, LongSupplier asks) {
        changesNothing(call, x, number, number, asks);
    }

    /** A call that must change nothing, refusals neither. */
    void unchanged(String call, Counted x, long answer, LongSupplier asks) {
        changesNothing(call, x, 0, answer, asks);
    }

    private void changesNothing(String call, Counted x, int number, long answer, LongSupplier asks) {
        Counted before = x.twin();
        due(call, asks.getAsLong(), answer);
        Counted after = x.twin();
        int[] had = before.refusals();
        int[] has = after.refusals();
        for (int i = 1; i <= 6; i++) {
            due(call + " then count(" + (10 + i) + ")", has[i], had[i] + (i == -number ? 1 : 0));
        }
        same(call, after.everything(), before.everything());
    }

    void same(String call, String told, String due) {
        asked++;
        if (!told.equals(due)) {
            wrong++;
            System.out.println(name + ": " + call + " changed " + due + " to " + told);
        }
    }

    void heights(String call, Counted x, int key, int... want) {
        for (int tooth = 0; tooth < 5; tooth++) {
            due(call + ": key(" + key + ", " + tooth + ")", x.key(key, tooth), want[tooth]);
        }
    }

    void pins(String call, Counted x, int... want) {
        for (int tooth = 0; tooth < 5; tooth++) {
            due(call + ": pin(" + tooth + ")", x.pin(tooth), want[tooth]);
        }
    }

    void end() {
        System.out.println(name + ": " + asked + " answers looked at, " + wrong + " not as due");
        if (wrong != 0) {
            System.exit(1);
        }
    }

    static void spell(Counted x, String text) {
        for (int i = 0; i < text.length(); i++) {
            x.letter(text.charAt(i));
        }
    }

    static int tell(Counted x, String text) {
        spell(x, text);
        return x.lock();
    }

    /** A new object to which texts have been told one behind the other, all of them without fault. */
    static Counted told(String... texts) {
        Counted x = new Counted();
        for (String text : texts) {
            int answer = tell(x, text);
            if (answer < 1) {
                throw new IllegalStateException("the text " + text + " has a fault: " + answer);
            }
        }
        return x;
    }

    static void tellRow(Counted x, int... numbers) {
        for (int number : numbers) {
            x.row(number);
        }
    }
}
