import java.util.ArrayList;
import java.util.Arrays;
import java.util.List;
import java.util.function.ToIntFunction;
import java.util.stream.IntStream;

/**
 * The document once more, written another way (objects, recursion, whole searches), so that ModelTest can hold the
 * program's answers against it.
 */
final class Model {
    private static class Machine {
        final int kind;
        final int figure;

        Machine(int kind, int figure) {
            this.kind = kind;
            this.figure = figure;
        }

        static Machine of(int kind, int figure) {
            return switch (kind) {
                case 0 -> new Machine(0, figure);
                case 1 -> new High(1, figure);
                case 2 -> new Wobbly(figure);
                case 3 -> new Round(3, figure);
                case 4 -> new Sloped(figure);
                default -> new Good(figure);
            };
        }

        int raw(int height, int tooth) {
            return height - figure;
        }

        final int[] cut(int[] heights) {
            return IntStream.range(0, 5).map(tooth -> held(raw(heights[tooth], tooth))).toArray();
        }

        static int held(int height) {
            return height < 0 ? 0 : height > 99 ? 99 : height;
        }
    }

    private static class High extends Machine {
        High(int kind, int figure) {
            super(kind, figure);
        }

        @Override
        int raw(int height, int tooth) {
            return height + figure;
        }
    }

    private static final class Wobbly extends Machine {
        Wobbly(int figure) {
            super(2, figure);
        }

        @Override
        int raw(int height, int tooth) {
            return tooth % 2 == 1 ? height : super.raw(height, tooth);
        }
    }

    private static class Round extends Machine {
        Round(int kind, int figure) {
            super(kind, figure);
        }

        @Override
        int raw(int height, int tooth) {
            return nearestTen(held(super.raw(height, tooth)));
        }
    }

    private static final class Sloped extends High {
        Sloped(int figure) {
            super(4, figure);
        }

        @Override
        int raw(int height, int tooth) {
            return held(super.raw(height, tooth)) + tooth;
        }
    }

    private static final class Good extends Round {
        Good(int figure) {
            super(5, figure);
        }

        @Override
        int raw(int height, int tooth) {
            return nearestTen(height);
        }
    }

    private static final class Key {
        int[] heights;
        int from = -9;
        boolean snapped;

        Key(int[] heights, int from) {
            this.heights = heights.clone();
            this.from = from;
        }

        Key again() {
            Key key = new Key(heights, from);
            key.snapped = snapped;
            return key;
        }
    }

    private static final class State {
        int[] pins = {50, 50, 50, 50, 50};
        int slack = 2;
        int uses;
        final List<Key> keys = new ArrayList<>();
        final List<Machine> machines = new ArrayList<>();

        State again() {
            State state = new State();
            state.pins = pins.clone();
            state.slack = slack;
            state.uses = uses;
            keys.forEach(key -> state.keys.add(key.again()));
            state.machines.addAll(machines);
            return state;
        }
    }

    private State now = new State();
    private State image;
    private String text = "";
    private final List<Integer> row = new ArrayList<>();
    private final int[] refusals = new int[7];

    private static int nearestTen(int v) {
        int best = 0;
        for (int ten = 0; ten <= 100; ten += 10) {
            if (Math.abs(ten - v) < Math.abs(best - v)) {
                best = ten;
            }
        }
        return best;
    }

    private static int code(int v) {
        int ten = nearestTen(v);
        return ten == 100 ? 90 : ten;
    }

    private int no(int number) {
        refusals[-number]++;
        return number;
    }

    private boolean noKey(int key) {
        return key < 0 || key >= now.keys.size();
    }

    private boolean noMachine(int machine) {
        return machine < 0 || machine >= now.machines.size();
    }

    private static boolean noTooth(int tooth) {
        return tooth < 0 || tooth > 4;
    }

    private boolean fits(int[] heights, int[] pins) {
        return IntStream.range(0, 5).allMatch(i -> Math.abs(heights[i] - pins[i]) <= now.slack);
    }

    private boolean opens(Key key) {
        return !key.snapped && fits(key.heights, now.pins);
    }

    private int wiggle(int[] heights) {
        return IntStream.range(0, 5).map(i -> Math.abs(heights[i] - now.pins[i])).sum();
    }

    /** Of those numbers for which a value is told (not null) the first with the least of it; -9. */
    private static int leastOf(IntStream numbers, ToIntFunction<Integer> value) {
        return numbers.boxed().min((a, b) -> Integer.compare(value.applyAsInt(a), value.applyAsInt(b))).orElse(-9);
    }

    private IntStream keys() {
        return IntStream.range(0, now.keys.size());
    }

    private static int bits(IntStream set) {
        return set.map(i -> 1 << i).sum();
    }

    /** For the test's own use: what a KIND with a FIGURE would cut from a KEY there is. */
    int[] copyOf(int key, int kind, int figure) {
        return Machine.of(kind, figure).cut(now.keys.get(key).heights);
    }

    int letter(int c) {
        if (c < 0) {
            return no(-4);
        }
        if (c > 255 || text.length() == 96) {
            return no(-6);
        }
        text += (char) c;
        return text.length();
    }

    int lock() {
        String said = text;
        text = "";
        String statement = "([lk]\\d{10}|m[mhwrsg]\\d|c\\d\\d|u\\d{3}|[sx]\\d);";
        if (!said.matches("(" + statement + ")+")) {
            return -1000 - longestViable(said, statement);
        }
        State saved = now.again();
        int place = 0;
        int statements = 0;
        for (String one : said.split(";")) {
            if (!happens(one)) {
                now = saved;
                return -2000 - place;
            }
            place += one.length() + 1;
            statements++;
        }
        return statements;
    }

    /** The longest beginning that some ending makes right: the matcher hits the end of it while it still may go on. */
    private static int longestViable(String said, String statement) {
        var pattern = java.util.regex.Pattern.compile("(" + statement + ")+");
        for (int length = said.length(); length > 0; length--) {
            var matcher = pattern.matcher(said.substring(0, length));
            if (matcher.matches() || matcher.hitEnd()) {
                return length;
            }
        }
        return 0;
    }

    private boolean happens(String one) {
        char begins = one.charAt(0);
        if (begins == 'l' || begins == 'k') {
            int[] five = IntStream.range(0, 5).map(i -> Integer.parseInt(one.substring(1 + 2 * i, 3 + 2 * i))).toArray();
            if (begins == 'l') {
                now.pins = five;
                return true;
            }
            return now.keys.size() < 10 && now.keys.add(new Key(five, -9));
        }
        if (begins == 'm') {
            Machine machine = Machine.of("mhwrsg".indexOf(one.charAt(1)), one.charAt(2) - '0');
            return now.machines.size() < 5 && now.machines.add(machine);
        }
        int digit = one.charAt(1) - '0';
        if (begins == 's') {
            now.slack = digit;
            return true;
        }
        if (noKey(digit) || now.keys.get(digit).snapped) {
            return false;
        }
        if (begins == 'x') {
            now.keys.get(digit).snapped = true;
            return true;
        }
        if (begins == 'u') {
            return use(digit, Integer.parseInt(one.substring(2)));
        }
        int machine = one.charAt(2) - '0';
        return !noMachine(machine) && now.keys.size() < 10 && copy(digit, machine) >= 0;
    }

    private boolean use(int key, int n) {
        if (now.uses + n > 9999) {
            return false;
        }
        Key used = now.keys.get(key);
        used.heights = Arrays.stream(used.heights).map(h -> Math.max(0, h - n / 10)).toArray();
        now.pins = Arrays.stream(now.pins).map(p -> Math.max(0, p - n / 20)).toArray();
        now.uses += n;
        return true;
    }

    private int copy(int key, int machine) {
        now.keys.add(new Key(now.machines.get(machine).cut(now.keys.get(key).heights), key));
        return now.keys.size() - 1;
    }

    int pin(int tooth) {
        return noTooth(tooth) ? no(-1) : now.pins[tooth];
    }

    int key(int key, int what) {
        if (noKey(key)) {
            return no(-1);
        }
        Key it = now.keys.get(key);
        return switch (what) {
            case 0, 1, 2, 3, 4 -> it.heights[what];
            case 5 -> it.from;
            case 6 -> it.snapped ? 1 : 0;
            case 7 -> opens(it) ? 1 : 0;
            case 8 -> wiggle(it.heights);
            case 9 -> leastOf(IntStream.range(0, 5), i -> -Math.abs(it.heights[i] - now.pins[i]));
            default -> no(-2);
        };
    }

    int machine(int machine, int what) {
        if (noMachine(machine)) {
            return no(-1);
        }
        return what == 0 ? now.machines.get(machine).kind : what == 1 ? now.machines.get(machine).figure : no(-2);
    }

    int sets(int tooth, int v) {
        if (noTooth(tooth)) {
            return no(-1);
        }
        if (v < 0 || v > 99) {
            return no(v < 0 ? -4 : -6);
        }
        int was = now.pins[tooth];
        now.pins[tooth] = v;
        return was;
    }

    int slack(int v) {
        if (v < 0 || v > 9) {
            return no(v < 0 ? -4 : -6);
        }
        int was = now.slack;
        now.slack = v;
        return was;
    }

    int files(int key, int tooth, int v) {
        if (noKey(key) || noTooth(tooth)) {
            return no(-1);
        }
        if (v < 0 || v > 99) {
            return no(v < 0 ? -4 : -6);
        }
        int was = now.keys.get(key).heights[tooth];
        now.keys.get(key).heights[tooth] = v;
        return was;
    }

    int turn(int machine, int kind, int figure) {
        if (noMachine(machine)) {
            return no(-1);
        }
        if (kind < 0 || kind > 5) {
            return no(-2);
        }
        if (figure < 0 || figure > 9) {
            return no(figure < 0 ? -4 : -6);
        }
        Machine was = now.machines.set(machine, Machine.of(kind, figure));
        return 10 * was.kind + was.figure;
    }

    int cut(int key, int machine) {
        if (noKey(key) || noMachine(machine)) {
            return no(-1);
        }
        if (now.keys.get(key).snapped) {
            return no(-3);
        }
        return now.keys.size() == 10 ? no(-6) : copy(key, machine);
    }

    int uses(int key, int n) {
        if (noKey(key)) {
            return no(-1);
        }
        if (n < 1) {
            return no(-4);
        }
        if (n > 99 || now.uses + n > 9999) {
            return no(-6);
        }
        if (now.keys.get(key).snapped) {
            return no(-3);
        }
        use(key, n);
        return opens(now.keys.get(key)) ? 1 : 0;
    }

    int snaps(int key) {
        if (noKey(key)) {
            return no(-1);
        }
        if (now.keys.get(key).snapped) {
            return no(-3);
        }
        now.keys.get(key).snapped = true;
        return (int) now.keys.stream().filter(k -> !k.snapped).count();
    }

    int opening() {
        return bits(keys().filter(k -> opens(now.keys.get(k))));
    }

    private int depth(int key) {
        int from = now.keys.get(key).from;
        return from == -9 ? 0 : 1 + depth(from);
    }

    private boolean comesFrom(int key, int elder) {
        return key == elder || key != -9 && now.keys.get(key).from != -9 && comesFrom(now.keys.get(key).from, elder);
    }

    int family(int key, int what) {
        if (noKey(key)) {
            return no(-1);
        }
        return switch (what) {
            case 0 -> depth(key);
            case 1 -> keys().filter(k -> comesFrom(key, k) && now.keys.get(k).from == -9).findFirst().orElse(-99);
            case 2 -> (int) now.keys.stream().filter(k -> k.from == key).count();
            case 3 -> bits(keys().filter(k -> comesFrom(k, key)));
            default -> no(-2);
        };
    }

    int common(int one, int other) {
        if (noKey(one) || noKey(other)) {
            return no(-1);
        }
        return leastOf(keys().filter(k -> comesFrom(one, k) && comesFrom(other, k)), k -> -depth(k));
    }

    int nearest() {
        return leastOf(keys().filter(k -> !now.keys.get(k).snapped), k -> wiggle(now.keys.get(k).heights));
    }

    int next(int what) {
        if (what != 0 && what != 1) {
            return no(-2);
        }
        ToIntFunction<Integer> value = p -> wiggle(now.machines.get(p % 10).cut(now.keys.get(p / 10).heights));
        IntStream pairs = IntStream.range(0, 100).filter(p -> !noKey(p / 10) && !noMachine(p % 10)
            && !now.keys.get(p / 10).snapped);
        int best = leastOf(pairs, value);
        return what == 0 || best == -9 ? best : value.applyAsInt(best);
    }

    int inRow(int key, int machine, int what) {
        if (noKey(key) || noMachine(machine)) {
            return no(-1);
        }
        if (what != 0 && what != 1) {
            return no(-2);
        }
        List<int[]> copies = new ArrayList<>();
        int[] last = now.keys.get(key).heights;
        for (int i = 0; i < 30; i++) {
            last = now.machines.get(machine).cut(last);
            copies.add(last);
        }
        int open = 0;
        while (open < 30 && fits(copies.get(open), now.pins)) {
            open++;
        }
        if (what == 0 || open == 30) {
            return what == 0 ? open : -9;
        }
        int[] shut = copies.get(open);
        return IntStream.range(0, 5).filter(i -> Math.abs(shut[i] - now.pins[i]) > now.slack).findFirst().orElse(-99);
    }

    int lasts(int key) {
        if (noKey(key)) {
            return no(-1);
        }
        State saved = now;
        int answer = -9;
        for (int n = 999; n >= 0; n--) {
            now = saved.again();
            now.uses = 0;
            use(key, n);
            if (!opens(now.keys.get(key))) {
                answer = n;
            }
        }
        now = saved;
        return answer;
    }

    int fit(int key) {
        if (noKey(key)) {
            return no(-1);
        }
        int[] heights = now.keys.get(key).heights;
        return IntStream.range(0, 5).map(i -> Math.abs(heights[i] - now.pins[i])).max().orElse(-99);
    }

    private int pinAnew(int tooth) {
        return leastOf(IntStream.range(0, 100), pin -> -(int) now.keys.stream()
            .filter(k -> !k.snapped && Math.abs(k.heights[tooth] - pin) <= now.slack).count());
    }

    int anew(int tooth) {
        if (tooth < -1 || tooth > 4) {
            return no(-1);
        }
        if (tooth >= 0) {
            return pinAnew(tooth);
        }
        int[] pins = IntStream.range(0, 5).map(this::pinAnew).toArray();
        return (int) now.keys.stream().filter(k -> !k.snapped && fits(k.heights, pins)).count();
    }

    private int firstCode(int set, int tooth) {
        int[] sorted = keys().filter(k -> (set & 1 << k) != 0).map(k -> now.keys.get(k).heights[tooth]).sorted().toArray();
        return code(sorted[(sorted.length - 1) / 2]);
    }

    int first(int set, int tooth) {
        if (set < 1 || set >= 1 << now.keys.size()) {
            return no(set < 1 ? -4 : -6);
        }
        return noTooth(tooth) ? no(-1) : firstCode(set, tooth);
    }

    int unlike(int set, int key) {
        if (set < 1 || set >= 1 << now.keys.size()) {
            return no(set < 1 ? -4 : -6);
        }
        if (noKey(key)) {
            return no(-1);
        }
        int[] heights = now.keys.get(key).heights;
        return (int) IntStream.range(0, 5).filter(i -> firstCode(set, i) != code(heights[i])).count();
    }

    int mend(int key) {
        if (noKey(key)) {
            return 1000000000 - no(-1);
        }
        int[] heights = now.keys.get(key).heights;
        return wiggle(heights) - wiggle(Arrays.stream(heights).map(Model::code).toArray());
    }

    int line(int key) {
        return noKey(key) ? no(-1) : openHeirs(key);
    }

    private int openHeirs(int key) {
        return (int) keys().filter(k -> comesFrom(k, key) && opens(now.keys.get(k))).count();
    }

    int bestLine() {
        return leastOf(keys().filter(k -> now.keys.get(k).from == -9), k -> -openHeirs(k));
    }

    int ask(int key) {
        if (noKey(key)) {
            return no(-1);
        }
        int from = now.keys.get(key).from;
        return leastOf(keys().filter(k -> k != key && opens(now.keys.get(k))
            && (k == from || now.keys.get(k).from == key || from != -9 && now.keys.get(k).from == from)),
            k -> wiggle(now.keys.get(k).heights));
    }

    int spare() {
        return leastOf(IntStream.range(1, 1 << now.keys.size()).filter(this::isEnough), Integer::bitCount);
    }

    private boolean isEnough(int set) {
        return keys().noneMatch(k -> (set & 1 << k) != 0 && now.keys.get(k).snapped)
            && IntStream.range(0, 5).allMatch(i -> keys().anyMatch(k -> (set & 1 << k) != 0
                && Math.abs(now.keys.get(k).heights[i] - now.pins[i]) <= now.slack));
    }

    long slip(int key, int machine, int n, int t, int part) {
        long refused = 4000000000000000000L;
        if (noKey(key) || noMachine(machine)) {
            return refused - no(-1);
        }
        if (n < 0 || t < 2) {
            return refused - no(-4);
        }
        if (n > 6 || t > 20) {
            return refused - no(-6);
        }
        if (part != 0 && part != 1) {
            return refused - no(-2);
        }
        Key it = now.keys.get(key);
        long above = n == 0 && it.snapped ? 0 : ways(it.heights, now.machines.get(machine), n, t);
        long below = Math.round(Math.pow(t, n));
        for (long d = 2; d <= 20; d++) {
            while (above % d == 0 && below % d == 0) {
                above /= d;
                below /= d;
            }
        }
        return part == 0 ? above : above == 0 ? 1 : below;
    }

    private long ways(int[] heights, Machine machine, int n, int t) {
        if (n == 0) {
            return fits(heights, now.pins) ? 1 : 0;
        }
        Machine slipping = Machine.of(machine.kind, machine.figure + 1);
        return (t - 1) * ways(machine.cut(heights), machine, n - 1, t) + ways(slipping.cut(heights), machine, n - 1, t);
    }

    int two(int key, int tooth) {
        if (noKey(key) || noTooth(tooth)) {
            return no(-1);
        }
        int machines = now.machines.size();
        int[][] last = new int[machines][machines];
        for (int a = 0; a < machines; a++) {
            for (int b = 0; b < machines; b++) {
                last[a][b] = now.machines.get(b).cut(now.machines.get(a).cut(now.keys.get(key).heights))[tooth];
            }
        }
        for (int a = 0; a < machines; a++) {
            for (int b = 0; b < machines; b++) {
                int column = b;
                int most = Arrays.stream(last).mapToInt(line -> line[column]).max().orElse(-1);
                int least = Arrays.stream(last[a]).min().orElse(-1);
                if (last[a][b] == most && last[a][b] == least) {
                    return 10 * a + b;
                }
            }
        }
        return -9;
    }

    int which(int key, int figure, int what) {
        if (noKey(key)) {
            return no(-1);
        }
        if (figure < 0 || figure > 9) {
            return no(figure < 0 ? -4 : -6);
        }
        if (what != 0 && what != 1) {
            return no(-2);
        }
        if (row.size() != 5) {
            return no(-3);
        }
        int[] told = row.stream().mapToInt(v -> v).toArray();
        int[] heights = now.keys.get(key).heights;
        return what == 0
            ? bits(IntStream.range(0, now.machines.size()).filter(m -> Arrays.equals(now.machines.get(m).cut(heights), told)))
            : bits(IntStream.range(0, 6).filter(k -> Arrays.equals(Machine.of(k, figure).cut(heights), told)));
    }

    int row(int v) {
        if (v < 0) {
            return no(-4);
        }
        if (v > 99 || row.size() == 12) {
            return no(-6);
        }
        row.add(v);
        return row.size();
    }

    int judge(int key) {
        if (noKey(key)) {
            return no(-1);
        }
        int[] heights = now.keys.get(key).heights;
        int answer = IntStream.range(0, row.size()).filter(i -> i > 4 || row.get(i) != heights[i]).findFirst().orElse(-9);
        row.clear();
        return answer;
    }

    int clear() {
        int had = row.size();
        row.clear();
        return had;
    }

    int lots(int n, int z, int what) {
        if (n < 1 || n > 20) {
            return no(n < 1 ? -4 : -6);
        }
        if (what != 0 && what != 1) {
            return no(-2);
        }
        if (now.keys.isEmpty() || now.machines.isEmpty()) {
            return no(-3);
        }
        int[] seed = {z};
        int open = 0;
        int wiggle = 0;
        for (int i = 0; i < n; i++) {
            int[] heights = now.keys.get(draw(seed, now.keys.size())).heights;
            int[] once = now.machines.get(draw(seed, now.machines.size())).cut(heights);
            int[] twice = now.machines.get(draw(seed, now.machines.size())).cut(once);
            open += fits(twice, now.pins) ? 1 : 0;
            wiggle += wiggle(twice);
        }
        return what == 0 ? open : wiggle;
    }

    private static int draw(int[] seed, int below) {
        seed[0] = (int) (seed[0] * 1664525L + 1013904223L);
        long unsigned = seed[0] < 0 ? seed[0] + (1L << 31) : seed[0];
        return (int) (unsigned / 256 % below);
    }

    int image() {
        image = now.again();
        return now.uses;
    }

    int on() {
        if (image == null) {
            return no(-3);
        }
        now = image.again();
        return now.uses;
    }

    int count(int what) {
        return switch (what) {
            case 0 -> now.keys.size();
            case 1 -> now.machines.size();
            case 2 -> now.uses;
            case 3 -> now.slack;
            case 4 -> bits(keys().filter(k -> now.keys.get(k).snapped));
            case 5 -> (int) now.keys.stream().filter(this::opens).count();
            case 6 -> row.size();
            case 7 -> text.length();
            case 11, 12, 13, 14, 15, 16 -> refusals[what - 10];
            default -> -9;
        };
    }
}
