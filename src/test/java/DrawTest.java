import java.math.BigInteger;

/** The DRAW of LOTS: its seed wraps around as an int, its sign's bit is left out, it is cut and below as many as there are. */
public final class DrawTest {
    private static final Edge EDGE = new Edge("DrawTest");
    private static final BigInteger TIMES = BigInteger.valueOf(1664525);
    private static final BigInteger AND = BigInteger.valueOf(1013904223);
    private static final BigInteger ROUND = BigInteger.ONE.shiftLeft(32);
    private static final BigInteger SIGN = BigInteger.ONE.shiftLeft(31);
    /** What the first DRAW may have become of its seed: around 0, the ends of int, and where 256 begins anew. */
    private static final long[] BECOMES = {0, 1, -1, Integer.MIN_VALUE, Integer.MIN_VALUE + 1, Integer.MAX_VALUE, 255, 256,
        257, 511, 512, -256, -255, -257, Integer.MIN_VALUE + 255L, Integer.MIN_VALUE + 256L, Integer.MAX_VALUE - 255L,
        Integer.MAX_VALUE - 256L, 9 * 256, 10 * 256 - 1, 10 * 256};
    private static final int[] SEEDS = {0, 1, -1, 7, Integer.MIN_VALUE, Integer.MAX_VALUE, 1 << 30, -1 << 30, 123456789};

    private final int[] heights;
    private final int[] figures;
    private BigInteger z;
    private int open;
    private int wiggle;

    private DrawTest(int[] heights, int[] figures) {
        this.heights = heights;
        this.figures = figures;
    }

    public static void main(String[] args) {
        firstDraw();
        everyCount();
        orderOfDraws();
        EDGE.end();
    }

    /** The seed from which one DRAW makes a told number. */
    private static int seedBefore(long becomes) {
        return BigInteger.valueOf(becomes).subtract(AND).multiply(TIMES.modInverse(ROUND)).mod(ROUND).intValue();
    }

    private int draw(int below) {
        z = z.multiply(TIMES).add(AND).mod(ROUND);
        BigInteger unsigned = z.mod(SIGN);
        return unsigned.divide(BigInteger.valueOf(256)).mod(BigInteger.valueOf(below)).intValue();
    }

    /** KEYS of one HEIGHT each and MACHINES m, PINS 50, SLACK 9: nothing of it is ever held. */
    private void draws(int n, int seed) {
        z = BigInteger.valueOf(seed);
        open = 0;
        wiggle = 0;
        for (int time = 0; time < n; time++) {
            int height = heights[draw(heights.length)];
            int copied = height - figures[draw(figures.length)];
            int off = Math.abs(copied - figures[draw(figures.length)] - 50);
            open += off <= 9 ? 1 : 0;
            wiggle += 5 * off;
        }
    }

    private static DrawTest of(int keys, int machines) {
        int[] heights = new int[keys];
        int[] figures = new int[machines];
        StringBuilder first = new StringBuilder("tell(s9;");
        StringBuilder second = new StringBuilder("tell(s9;");
        for (int key = 0; key < keys; key++) {
            heights[key] = 35 + 5 * key;
            (key < 7 ? first : second).append('k').append(String.valueOf(heights[key]).repeat(5)).append(';');
        }
        for (int machine = 0; machine < machines; machine++) {
            figures[machine] = 2 * machine;
            second.append("mm").append(figures[machine]).append(';');
        }
        EDGE.from(first.append(')').toString(), second.append(')').toString());
        return new DrawTest(heights, figures);
    }

    private void looks(String sentence, int n, int seed) {
        draws(n, seed);
        EDGE.due(sentence, open, "lots(" + n + ", " + seed + ", 0)");
        EDGE.due(sentence + ", WIGGLE", wiggle, "lots(" + n + ", " + seed + ", 1)");
    }

    private static void firstDraw() {
        DrawTest ten = of(10, 5);
        DrawTest.key("z becomes 0", ten, 0, 35);
        DrawTest.key("the greatest below 256 is cut to 0", ten, 255, 35);
        DrawTest.key("256 is cut to 1", ten, 256, 40);
        DrawTest.key("one below as many as there are", ten, 10 * 256 - 1, 80);
        DrawTest.key("as many as there are is 0 again", ten, 10 * 256, 35);
        DrawTest.key("the sign's bit alone is 0", ten, Integer.MIN_VALUE, 35);
        DrawTest.key("-1 without its sign's bit, by 256, is 8388607: 7 modulo 10", ten, -1, 70);
        DrawTest.key("the greatest int is the same", ten, Integer.MAX_VALUE, 70);
        for (long becomes : BECOMES) {
            ten.looks("z becomes " + becomes, 1, seedBefore(becomes));
            ten.looks("z becomes " + becomes + " and goes on", 20, seedBefore(becomes));
        }
    }

    /** The KEY that the first DRAW takes, told by its HEIGHT. */
    private static void key(String sentence, DrawTest ten, long becomes, int height) {
        int seed = seedBefore(becomes);
        EDGE.due(sentence, 5L * Math.abs(height - 50), "turn(0, 0, 0)", "turn(1, 0, 0)", "turn(2, 0, 0)", "turn(3, 0, 0)",
            "turn(4, 0, 0)", "lots(1, " + seed + ", 1)");
        ten.looks(sentence, 1, seed);
    }

    private static void everyCount() {
        for (int keys = 1; keys <= 10; keys++) {
            for (int machines = 1; machines <= 5; machines++) {
                DrawTest some = of(keys, machines);
                for (int seed : SEEDS) {
                    some.looks(keys + " KEYS, " + machines + " MACHINES", 1 + (seed & 15) + keys % 5, seed);
                }
            }
        }
        DrawTest two = of(2, 2);
        for (int n = 1; n <= 20; n++) {
            two.looks(n + " times", n, -n);
        }
    }

    /** First m3 then g is not as first g then m3; of the three DRAWS the second is the first MACHINE. */
    private static void orderOfDraws() {
        EDGE.from("tell(l0000000000;k4747474747;mm3;mg0;)");
        int[] wiggles = {5 * 41, 5 * 40, 5 * 47, 5 * 50};
        for (int seed = 0; seed < 32; seed++) {
            DrawTest order = new DrawTest(new int[1], new int[2]);
            order.z = BigInteger.valueOf(seed);
            order.draw(1);
            int first = order.draw(2);
            int other = order.draw(2);
            EDGE.due("the copy once more by one", wiggles[2 * first + other], "lots(1, " + seed + ", 1)");
        }
        EDGE.due("none of it stays: the same seed, the same LOTS", 5 * 41, "lots(20, 9, 0)", "lots(1, " + seedOf(0, 0) + ", 1)");
    }

    private static int seedOf(int first, int other) {
        for (int seed = 0; seed < 1000; seed++) {
            DrawTest order = new DrawTest(new int[1], new int[2]);
            order.z = BigInteger.valueOf(seed);
            order.draw(1);
            if (order.draw(2) == first && order.draw(2) == other) {
                return seed;
            }
        }
        throw new IllegalStateException("no such seed");
    }
}
