import java.math.BigInteger;

/** SLIP as a fraction in least terms, of every n and t there can be. */
public final class FractionTest {
    private static final Edge EDGE = new Edge("FractionTest");

    public static void main(String[] args) {
        everyFraction();
        certainAndNever();
        leastTerms();
        eachTime();
        EDGE.end();
    }

    /** By m0 each slip takes 1 off: of n at most as many slip as SLACK allows. */
    private static void everyFraction() {
        for (int slack = 0; slack <= 6; slack++) {
            EDGE.from("tell(k5050505050;mm0;s" + slack + ";)");
            for (int n = 0; n <= 6; n++) {
                for (int t = 2; t <= 20; t++) {
                    fraction("every n and t", n, t, atMost(slack, n, t));
                }
            }
        }
        EDGE.from();
    }

    private static BigInteger atMost(int slips, int n, int t) {
        BigInteger ways = BigInteger.ZERO;
        BigInteger choices = BigInteger.ONE;
        for (int k = 0; k <= Math.min(slips, n); k++) {
            ways = ways.add(choices.multiply(BigInteger.valueOf(t - 1).pow(n - k)));
            choices = choices.multiply(BigInteger.valueOf(n - k)).divide(BigInteger.valueOf(k + 1));
        }
        return ways;
    }

    private static void fraction(String sentence, int n, int t, BigInteger ways) {
        BigInteger all = BigInteger.valueOf(t).pow(n);
        BigInteger common = ways.gcd(all);
        String call = "slip(0, 0, " + n + ", " + t + ", ";
        EDGE.due(sentence, ways.divide(common).longValue(), call + "0)");
        EDGE.due(sentence, all.divide(common).longValue(), call + "1)");
    }

    private static void certainAndNever() {
        for (int n = 0; n <= 6; n++) {
            for (int t : new int[] {2, 3, 20}) {
                EDGE.from("tell(k5555555555;l5050505050;mg0;)");
                fraction(n == 0 ? "the KEY itself does not OPEN: 0 by 1" : "certain: 1 by 1", n, t,
                    n == 0 ? BigInteger.ZERO : BigInteger.valueOf(t).pow(n));
                EDGE.from("tell(k5050505050;l5050505050;ms0;)");
                fraction(n == 0 ? "the KEY itself OPENS: 1 by 1" : "never: 0 by 1", n, t,
                    n == 0 ? BigInteger.ONE : BigInteger.ZERO);
            }
        }
        EDGE.from("tell(k5050505050;mm0;x0;)");
        fraction("the KEY itself is SNAPPED: 0 by 1", 0, 2, BigInteger.ZERO);
        fraction("copies of a SNAPPED KEY", 1, 2, BigInteger.TWO);
        EDGE.from();
    }

    private static void leastTerms() {
        EDGE.from("tell(k5050505050;mm0;s1;)");
        EDGE.due("3 by 4", 3, "slip(0, 0, 2, 2, 0)");
        EDGE.due("3 by 4", 4, "slip(0, 0, 2, 2, 1)");
        EDGE.due("4 by 8 is 1 by 2", 1, "slip(0, 0, 3, 2, 0)");
        EDGE.due("4 by 8 is 1 by 2", 2, "slip(0, 0, 3, 2, 1)");
        EDGE.due("20 by 27 stays", 20, "slip(0, 0, 3, 3, 0)");
        EDGE.due("20 by 27 stays", 27, "slip(0, 0, 3, 3, 1)");
        EDGE.due("54 by 64 is 27 by 32", 27, "slip(0, 0, 3, 4, 0)");
        EDGE.due("54 by 64 is 27 by 32", 32, "slip(0, 0, 3, 4, 1)");
        EDGE.from();
    }

    /** That time alone: the slip of one time is not there the next time, and its place in the row matters to ROUND. */
    private static void eachTime() {
        EDGE.from("tell(l4040404040;k4949494949;mr3;s0;)");
        // 49 less 3 is 46: 50, and 50 less 3 or 4 is 50 again; 49 less 4 is 45: 40, and 40 less 3 or 4 is 40 again.
        EDGE.due("a slip the first time alone", 1, "slip(0, 0, 1, 5, 0)");
        EDGE.due("a slip the first time alone", 5, "slip(0, 0, 1, 5, 1)");
        EDGE.due("a slip the first of two times, no matter the other", 1, "slip(0, 0, 2, 5, 0)");
        EDGE.due("a slip the first of two times, no matter the other", 5, "slip(0, 0, 2, 5, 1)");
        EDGE.from("tell(l4848484848;k5050505050;mm1;s0;)");
        EDGE.due("no slip in two", 16, "slip(0, 0, 2, 5, 0)");
        EDGE.from("tell(l4747474747;k5050505050;mm1;s0;)");
        EDGE.due("one slip in two, either time", 8, "slip(0, 0, 2, 5, 0)");
        EDGE.from("tell(l4646464646;k5050505050;mm1;s0;)");
        EDGE.due("two slips in two", 1, "slip(0, 0, 2, 5, 0)");
        EDGE.from();
    }
}
