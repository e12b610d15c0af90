import java.lang.reflect.InvocationTargetException;
import java.lang.reflect.Method;
import java.util.HashMap;
import java.util.Map;

/**
 * One object whose calls are told as text, "sets(0, 99)", and of which there are never more than the 512 that the
 * document speaks of. "least" and "most" are the ends of int; "101 x uses(0, 99)" is a call 101 times. Besides the face:
 * spell(..) takes letters, tell(..) takes letters and locks them without a FAULT, rows(..) takes numbers of the ROW.
 */
final class Used {
    private static final int MOST_CALLS = 512;
    private static final Map<String, Method> FACE = new HashMap<>();

    static {
        for (Method method : CopyOfACopy.class.getMethods()) {
            FACE.put(method.getName(), method);
        }
    }

    private final CopyOfACopy x = new CopyOfACopy();
    private int calls;

    int calls() {
        return calls;
    }

    long ask(String call) {
        int times = call.indexOf(" x ");
        if (times < 0) {
            return askOnce(call);
        }
        long answer = 0;
        for (int i = Integer.parseInt(call.substring(0, times)); i > 0; i--) {
            answer = askOnce(call.substring(times + 3));
        }
        return answer;
    }

    private long askOnce(String call) {
        int open = call.indexOf('(');
        String name = call.substring(0, open);
        String inside = call.substring(open + 1, call.length() - 1);
        switch (name) {
            case "spell":
                return spell(inside);
            case "tell":
                spell(inside);
                return mustBeRight(inside, askOnce("lock()"));
            case "rows":
                return rows(inside);
            default:
                return invoke(name, arguments(inside));
        }
    }

    long spell(String text) {
        long letters = 0;
        for (int i = 0; i < text.length(); i++) {
            letters = invoke("letter", new Object[] {(int) text.charAt(i)});
        }
        return letters;
    }

    private static long mustBeRight(String text, long answer) {
        if (answer < 1) {
            throw new IllegalStateException("the text " + text + " has a fault: " + answer);
        }
        return answer;
    }

    private long rows(String numbers) {
        long answer = 0;
        for (Object number : arguments(numbers)) {
            answer = invoke("row", new Object[] {number});
        }
        return answer;
    }

    private static Object[] arguments(String inside) {
        if (inside.isEmpty()) {
            return new Object[0];
        }
        String[] words = inside.split(", ");
        Object[] numbers = new Object[words.length];
        for (int i = 0; i < words.length; i++) {
            numbers[i] = switch (words[i]) {
                case "least" -> Integer.MIN_VALUE;
                case "most" -> Integer.MAX_VALUE;
                default -> Integer.parseInt(words[i]);
            };
        }
        return numbers;
    }

    private long invoke(String name, Object[] arguments) {
        calls++;
        if (calls > MOST_CALLS) {
            throw new IllegalStateException("more than " + MOST_CALLS + " calls of one object");
        }
        try {
            return ((Number) FACE.get(name).invoke(x, arguments)).longValue();
        } catch (IllegalAccessException e) {
            throw new IllegalStateException(e);
        } catch (InvocationTargetException e) {
            throw new IllegalStateException(name + " threw", e.getCause());
        }
    }

    int[] refusals() {
        int[] refusals = new int[7];
        for (int i = 1; i <= 6; i++) {
            refusals[i] = (int) ask("count(" + (10 + i) + ")");
        }
        return refusals;
    }

    /** THE LOCK, KEYS, MACHINES, USES. */
    private void shop(StringBuilder told) {
        for (int what = 0; what <= 5; what++) {
            told.append(what == 0 ? "counts " : ",").append(ask("count(" + what + ")"));
        }
        for (int tooth = 0; tooth < 5; tooth++) {
            told.append(tooth == 0 ? " pins " : ",").append(ask("pin(" + tooth + ")"));
        }
        long keys = ask("count(0)");
        for (int key = 0; key < keys; key++) {
            for (int what = 0; what <= 6; what++) {
                told.append(what == 0 ? " key " : ",").append(ask("key(" + key + ", " + what + ")"));
            }
        }
        long machines = ask("count(1)");
        for (int machine = 0; machine < machines; machine++) {
            told.append(" machine ").append(ask("machine(" + machine + ", 0)"));
            told.append(',').append(ask("machine(" + machine + ", 1)"));
        }
    }

    /** All that can be found out, without REFUSALS: the ROW, letters and THE IMAGE are used up for it. */
    String everything() {
        StringBuilder told = new StringBuilder();
        shop(told);
        told.append(" row ").append(ask("count(6)")).append(" which ").append(ask("which(0, 0, 0)"));
        told.append(',').append(ask("which(0, 0, 1)")).append(" judged ").append(ask("judge(0)"));
        told.append(" letters ").append(ask("count(7)")).append(" lock ").append(ask("lock()"));
        for (int what = 0; what <= 5; what++) {
            told.append(',').append(ask("count(" + what + ")"));
        }
        told.append(" on ").append(ask("on()")).append(' ');
        shop(told);
        return told.toString();
    }
}
