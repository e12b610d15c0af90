import java.lang.reflect.InvocationTargetException;
import java.lang.reflect.Method;
import java.util.HashMap;
import java.util.Map;

/**
 * One object whose calls are told as text, "sets(0, 99)". "least" and "most" are the ends of int; "101 x uses(0, 99)" is a
 * call 101 times. Besides the face: spell(..) takes letters, tell(..) takes letters and locks them without a FAULT,
 * rows(..) takes numbers of the ROW.
 */
final class Used {
    private static final Map<String, Method> FACE = new HashMap<>();

    static {
        for (Method method : Counted.class.getDeclaredMethods()) {
            FACE.put(method.getName(), method);
        }
    }

    private final Counted x = new Counted();

    int calls() {
        return x.calls();
    }

    int[] refusals() {
        return x.refusals();
    }

    String everything() {
        return x.everything();
    }

    long ask(String call) {
        int times = call.indexOf(" x ");
        if (times < 0) {
            return askOnce(call);
        }
        long answer = 0;
        for (int i = Integer.parseInt(call.substring(0, times)); i > 0; i--) {
            answer = askOnce(call.substring(times + 3));
        }
        return answer;
    }

    private long askOnce(String call) {
        int open = call.indexOf('(');
        String name = call.substring(0, open);
        String inside = call.substring(open + 1, call.length() - 1);
        switch (name) {
            case "spell":
                return spell(inside);
            case "tell":
                spell(inside);
                return mustBeRight(inside, askOnce("lock()"));
            case "rows":
                return rows(inside);
            default:
                return invoke(name, arguments(inside));
        }
    }

    long spell(String text) {
        long letters = 0;
        for (int i = 0; i < text.length(); i++) {
            letters = invoke("letter", new Object[] {(int) text.charAt(i)});
        }
        return letters;
    }

    private static long mustBeRight(String text, long answer) {
        if (answer < 1) {
            throw new IllegalStateException("the text " + text + " has a fault: " + answer);
        }
        return answer;
    }

    private long rows(String numbers) {
        long answer = 0;
        for (Object number : arguments(numbers)) {
            answer = invoke("row", new Object[] {number});
        }
        return answer;
    }

    private static Object[] arguments(String inside) {
        if (inside.isEmpty()) {
            return new Object[0];
        }
        String[] words = inside.split(", ");
        Object[] numbers = new Object[words.length];
        for (int i = 0; i < words.length; i++) {
            numbers[i] = switch (words[i]) {
                case "least" -> Integer.MIN_VALUE;
                case "most" -> Integer.MAX_VALUE;
                default -> Integer.parseInt(words[i]);
            };
        }
        return numbers;
    }

    private long invoke(String name, Object[] arguments) {
        try {
            return ((Number) FACE.get(name).invoke(x, arguments)).longValue();
        } catch (IllegalAccessException e) {
            throw new IllegalStateException(e);
        } catch (InvocationTargetException e) {
            throw new IllegalStateException(name + " threw", e.getCause());
        }
    }
}
