import java.util.function.LongSupplier;

/** Compares answers with those that are due, and ends the test with exit code 1 if one was not. */
final class Check {
    private final String name;
    private int asked;
    private int wrong;

    Check(String name) {
        this.name = name;
    }

    void due(String call, long got, long want) {
        asked++;
        if (got != want) {
            wrong++;
            System.out.println(name + ": " + call + " answered " + got + ", due is " + want);
        }
    }

    /** A call that must be refused: its answer, one refusal of that number more, and nothing else changed. */
    void refused(String call, CopyOfACopy x, int number, long answer, LongSupplier asks) {
        String before = stateOf(x);
        int[] had = refusalsOf(x);
        due(call, asks.getAsLong(), answer);
        int[] has = refusalsOf(x);
        for (int i = 1; i <= 6; i++) {
            due(call + " then count(" + (10 + i) + ")", has[i], had[i] + (i == -number ? 1 : 0));
        }
        sameState(call, x, before);
    }

    void refused(String call, CopyOfACopy x, int number, LongSupplier asks) {
        refused(call, x, number, number, asks);
    }

    /** A call that must change nothing, refusals neither. */
    void unchanged(String call, CopyOfACopy x, long answer, LongSupplier asks) {
        String before = stateOf(x);
        int[] had = refusalsOf(x);
        due(call, asks.getAsLong(), answer);
        int[] has = refusalsOf(x);
        for (int i = 1; i <= 6; i++) {
            due(call + " then count(" + (10 + i) + ")", has[i], had[i]);
        }
        sameState(call, x, before);
    }

    void sameState(String call, CopyOfACopy x, String before) {
        asked++;
        String after = stateOf(x);
        if (!after.equals(before)) {
            wrong++;
            System.out.println(name + ": " + call + " changed " + before + " to " + after);
        }
    }

    void heights(String call, CopyOfACopy x, int key, int... want) {
        for (int tooth = 0; tooth < 5; tooth++) {
            due(call + ": key(" + key + ", " + tooth + ")", x.key(key, tooth), want[tooth]);
        }
    }

    void pins(String call, CopyOfACopy x, int... want) {
        for (int tooth = 0; tooth < 5; tooth++) {
            due(call + ": pin(" + tooth + ")", x.pin(tooth), want[tooth]);
        }
    }

    void end() {
        System.out.println(name + ": " + asked + " answers looked at, " + wrong + " not as due");
        if (wrong != 0) {
            System.exit(1);
        }
    }

    static int[] refusalsOf(CopyOfACopy x) {
        int[] refusals = new int[7];
        for (int i = 1; i <= 6; i++) {
            refusals[i] = x.count(10 + i);
        }
        return refusals;
    }

    /** All that the face tells of an object, without refusals. */
    static String stateOf(CopyOfACopy x) {
        StringBuilder told = new StringBuilder();
        for (int what = 0; what < 8; what++) {
            told.append(x.count(what)).append(' ');
        }
        for (int tooth = 0; tooth < 5; tooth++) {
            told.append('l').append(x.pin(tooth));
        }
        for (int key = 0; key < x.count(0); key++) {
            for (int what = 0; what < 10; what++) {
                told.append(what == 0 ? " k" : ",").append(x.key(key, what));
            }
        }
        for (int machine = 0; machine < x.count(1); machine++) {
            told.append(" m").append(x.machine(machine, 0)).append(',').append(x.machine(machine, 1));
        }
        return told.toString();
    }

    static void spell(CopyOfACopy x, String text) {
        for (int i = 0; i < text.length(); i++) {
            x.letter(text.charAt(i));
        }
    }

    static int tell(CopyOfACopy x, String text) {
        spell(x, text);
        return x.lock();
    }

    /** A new object to which texts have been told one behind the other, all of them without fault. */
    static CopyOfACopy told(String... texts) {
        CopyOfACopy x = new CopyOfACopy();
        for (String text : texts) {
            int answer = tell(x, text);
            if (answer < 1) {
                throw new IllegalStateException("the text " + text + " has a fault: " + answer);
            }
        }
        return x;
    }

    static void tellRow(CopyOfACopy x, int... numbers) {
        for (int number : numbers) {
            x.row(number);
        }
    }
}
