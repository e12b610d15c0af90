import java.lang.reflect.Method;
import java.lang.reflect.Modifier;
import java.util.ArrayDeque;
import java.util.ArrayList;
import java.util.Arrays;
import java.util.Comparator;
import java.util.Deque;
import java.util.List;
import java.util.Random;

/** Long runs of calls by lot, always the same ones, on the program and on the model of the document. */
public final class ModelTest {
    private static final int RUNS = 1000;
    private static final int CALLS = 512;
    private static final Check CHECK = new Check("ModelTest");
    private static final int[] WILD = {Integer.MIN_VALUE, Integer.MAX_VALUE, -1000, -1, 0, 1, 10, 100, 256, 1023, 1024};
    /** Calls that take much away from what the others can show. */
    private static final List<String> SELDOM = List.of("image", "on", "clear", "judge", "snaps", "letter", "lock", "row");

    private record Call(String name, Object... arguments) {
    }

    private final Random random;
    private final CopyOfACopy program = new CopyOfACopy();
    private final Model model = new Model();
    /** Calls that belong together: a text letter by letter, a ROW and what is asked of it. */
    private final Deque<Call> planned = new ArrayDeque<>();

    private ModelTest(long seed) {
        random = new Random(seed);
    }

    public static void main(String[] args) throws Exception {
        List<Method> face = face();
        for (int run = 0; run < RUNS; run++) {
            new ModelTest(run).run(run, face);
        }
        CHECK.end();
    }

    private static List<Method> face() {
        List<Method> face = new ArrayList<>();
        for (Method method : CopyOfACopy.class.getDeclaredMethods()) {
            if (Modifier.isPublic(method.getModifiers())) {
                face.add(method);
            }
        }
        face.sort(Comparator.comparing(Method::getName));
        return face;
    }

    private void run(int run, List<Method> face) throws Exception {
        if (run % 10 != 0) {
            planText("k" + five() + ";k" + five() + ";mm1;" + machine() + machine() + "s" + random.nextInt(10) + ";");
        }
        for (int calls = 0; calls < CALLS; calls++) {
            if (planned.isEmpty()) {
                plan(face);
            }
            Call call = planned.remove();
            long got = answer(face, program, call);
            long due = answer(List.of(Model.class.getDeclaredMethods()), model, call);
            CHECK.due("run " + run + " call " + calls + ": " + call.name + Arrays.toString(call.arguments), got, due);
        }
    }

    private static long answer(List<Method> methods, Object of, Call call) throws Exception {
        for (Method method : methods) {
            if (method.getName().equals(call.name)) {
                return ((Number) method.invoke(of, call.arguments)).longValue();
            }
        }
        throw new IllegalStateException("no method " + call.name);
    }

    private void plan(List<Method> face) {
        int lot = random.nextInt(60);
        if (lot == 0) {
            planText(text());
        } else if (lot <= 2 && model.count(0) > 0) {
            planRow();
        } else {
            Method method = face.get(random.nextInt(face.size()));
            if (SELDOM.contains(method.getName()) && random.nextInt(5) != 0) {
                method = face.get(random.nextInt(face.size()));
            }
            planned.add(new Call(method.getName(), drawn(method)));
        }
    }

    private void planText(String text) {
        for (int i = 0; i < text.length(); i++) {
            planned.add(new Call("letter", (int) text.charAt(i)));
        }
        planned.add(new Call("lock"));
    }

    /** A ROW that is often as a copy of a KEY or as the KEY itself, and what is asked of it. */
    private void planRow() {
        int key = random.nextInt(model.count(0));
        int figure = random.nextInt(random.nextInt(2) == 0 ? 2 : 10);
        int[] copy = model.copyOf(key, random.nextInt(6), random.nextInt(3) == 0 ? 0 : figure);
        if (random.nextInt(4) == 0) {
            copy[random.nextInt(5)] = random.nextInt(100);
        }
        int told = random.nextInt(4) == 0 ? random.nextInt(14) : 5;
        planned.add(new Call("clear"));
        for (int i = 0; i < told; i++) {
            planned.add(new Call("row", i < 5 ? copy[i] : random.nextInt(100)));
        }
        planned.add(new Call("which", key, figure, 0));
        planned.add(new Call("which", key, figure, 1));
        planned.add(new Call("judge", random.nextInt(3) == 0 ? random.nextInt(model.count(0) + 1) : key));
    }

    private Object[] drawn(Method method) {
        Object[] arguments = new Object[method.getParameterCount()];
        for (int i = 0; i < arguments.length; i++) {
            arguments[i] = argument(method.getName(), i);
        }
        return arguments;
    }

    private int argument(String name, int place) {
        int lot = random.nextInt(40);
        if (lot == 0) {
            return WILD[random.nextInt(WILD.length)];
        }
        if (lot == 1) {
            return random.nextInt(24) - 2;
        }
        int keys = Math.max(1, model.count(0));
        int machines = Math.max(1, model.count(1));
        return switch (name + place) {
            case "letter0" -> "lkmcusx0123456789;mhwrsg".charAt(random.nextInt(24));
            case "pin0", "sets0", "files1", "first1", "two1" -> random.nextInt(5);
            case "anew0" -> random.nextInt(6) - 1;
            case "sets1", "files2", "row0" -> near(random.nextInt(5));
            case "slack0", "key1" -> random.nextInt(10);
            case "turn1" -> random.nextInt(6);
            case "turn2", "which1" -> random.nextInt(3) == 0 ? random.nextInt(10) : random.nextInt(3);
            case "uses1" -> 1 + random.nextInt(random.nextInt(3) == 0 ? 99 : 20);
            case "family1" -> random.nextInt(4);
            case "first0", "unlike0" -> 1 + random.nextInt(Math.max(1, (1 << keys) - 1));
            case "slip2" -> random.nextInt(7);
            case "slip3" -> 2 + random.nextInt(19);
            case "lots0" -> 1 + random.nextInt(20);
            case "lots1" -> random.nextInt();
            case "count0" -> random.nextInt(18);
            case "cut1", "inRow1", "slip1", "machine0", "turn0" -> random.nextInt(machines);
            case "next0", "inRow2", "slip4", "which2", "lots2", "machine1" -> random.nextInt(2);
            default -> random.nextInt(keys);
        };
    }

    /** Mostly a number near a PIN, so that many KEYS OPEN. */
    private int near(int tooth) {
        int off = random.nextInt(random.nextInt(3) == 0 ? 9 : 3);
        int v = model.pin(tooth) + (random.nextBoolean() ? off : -off);
        return random.nextInt(12) == 0 ? random.nextInt(100) : Math.max(0, Math.min(99, v));
    }

    /** A text that is often right. */
    private String text() {
        StringBuilder text = new StringBuilder();
        int statements = 1 + random.nextInt(6);
        for (int i = 0; i < statements; i++) {
            text.append(statement());
        }
        if (random.nextInt(5) == 0) {
            text.setCharAt(random.nextInt(text.length()), (char) random.nextInt(128));
        }
        if (random.nextInt(8) == 0) {
            text.setLength(random.nextInt(text.length() + 1));
        }
        return text.toString();
    }

    private String statement() {
        int key = random.nextInt(Math.min(10, model.count(0) + 2));
        int machine = random.nextInt(model.count(1) + 1);
        return switch (random.nextInt(10)) {
            case 0 -> "l" + five() + ";";
            case 1, 2 -> "k" + five() + ";";
            case 3, 4 -> machine();
            case 5, 6 -> "c" + key + machine + ";";
            case 7 -> "u" + key + twoDigits(random.nextInt(100)) + ";";
            case 8 -> "s" + random.nextInt(10) + ";";
            default -> random.nextInt(3) == 0 ? "x" + key + ";" : "k" + five() + ";";
        };
    }

    private String machine() {
        int figure = random.nextInt(random.nextInt(2) == 0 ? 10 : 3);
        return "m" + "mhwrsg".charAt(random.nextInt(6)) + figure + ";";
    }

    private String five() {
        StringBuilder text = new StringBuilder();
        for (int i = 0; i < 5; i++) {
            text.append(twoDigits(near(i)));
        }
        return text.toString();
    }

    private static String twoDigits(int v) {
        return v < 10 ? "0" + v : String.valueOf(v);
    }
}
