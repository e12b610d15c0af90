import java.util.Set;

/**
 * Looks at one boundary case of the document at a time, each on a new object: the calls that lead there, and what the
 * last of them must answer. What must change nothing is held against a twin that had the same calls but the last.
 */
final class Edge {
    private static final Set<String> CHANGES = Set.of("letter", "spell", "lock", "tell", "sets", "slack", "files", "turn",
        "cut", "uses", "snaps", "row", "rows", "judge", "clear", "image", "on");
    private static final String[] NOTHING = {};

    private final String name;
    private String[] start = NOTHING;
    private int looked;
    private int wrong;

    Edge(String name) {
        this.name = name;
    }

    /** The calls with which every object begins from here on. */
    void from(String... calls) {
        start = calls;
    }

    /** What the last call answers; an asking one must change nothing and count no REFUSAL. */
    void due(String sentence, long answer, String... calls) {
        Used used = led(calls, calls.length);
        String last = calls[calls.length - 1];
        String asked = last.substring(last.lastIndexOf(' ', last.indexOf('(')) + 1, last.indexOf('('));
        if (CHANGES.contains(asked)) {
            right(sentence, calls, used.ask(last), answer);
        } else {
            changesNothing(sentence, calls, answer, 0);
        }
    }

    /** The last call is refused: one REFUSAL of that number more, nothing else. */
    void refused(String sentence, int number, String... calls) {
        String last = calls[calls.length - 1];
        long answer = number;
        if (last.startsWith("mend(")) {
            answer = 1000000000L - number;
        } else if (last.startsWith("slip(")) {
            answer = 4000000000000000000L - number;
        }
        changesNothing(sentence, calls, answer, number);
    }

    /** A text, told behind the calls that lead there, has a FAULT: no letter is left, nothing is counted or changed. */
    void fault(String sentence, long answer, String text, String... calls) {
        Used used = led(calls, calls.length + 1);
        Used twin = led(calls, calls.length + 1);
        used.spell(text);
        String[] told = {"lock() of " + text};
        right(sentence, told, used.ask("lock()"), answer);
        right(sentence + ": letters", told, used.ask("count(7)"), 0);
        sameButRefused(sentence, told, used, twin, 0);
    }

    private void changesNothing(String sentence, String[] calls, long answer, int number) {
        Used used = led(calls, calls.length);
        Used twin = led(calls, calls.length);
        right(sentence, calls, used.ask(calls[calls.length - 1]), answer);
        sameButRefused(sentence, calls, used, twin, number);
    }

    private void sameButRefused(String sentence, String[] calls, Used used, Used twin, int number) {
        int[] has = used.refusals();
        int[] had = twin.refusals();
        for (int i = 1; i <= 6; i++) {
            right(sentence + ": REFUSALS -" + i, calls, has[i], had[i] + (i == -number ? 1 : 0));
        }
        looked++;
        String told = used.everything();
        String due = twin.everything();
        if (!told.equals(due)) {
            wrong++;
            System.out.println(name + ": " + sentence + ": " + String.join(" ", calls) + " changed " + due + " to " + told);
        }
    }

    /** A new object that has had all these calls but the last. */
    private Used led(String[] calls, int length) {
        Used used = new Used();
        for (String call : start) {
            used.ask(call);
        }
        for (int i = 0; i < length - 1; i++) {
            used.ask(calls[i]);
        }
        return used;
    }

    void right(String sentence, String[] calls, long got, long due) {
        looked++;
        if (got != due) {
            wrong++;
            System.out.println(name + ": " + sentence + ": " + String.join(" ", calls) + " answered " + got + ", due is " + due);
        }
    }

    void end() {
        System.out.println(name + ": " + looked + " answers looked at, " + wrong + " not as due");
        if (wrong != 0) {
            System.exit(1);
        }
    }
}
