import java.util.ArrayList;
import java.util.List;

/**
 * Two or more REFUSALS at once: of every mix of right and wrong arguments, in every state that a call may be refused for,
 * the first that fits in the order of the promise is told, it alone is counted, and nothing changes.
 */
public final class RefusalOrderTest {
    private static final Edge EDGE = new Edge("RefusalOrderTest");
    /** KEY 0 is whole, KEY 1 SNAPPED, KEY 2 is not there; of MACHINES there is 0 alone; a ROW of three; THE IMAGE is empty. */
    private static final String[] SHOP = {"image()", "tell(k5051525354;k5453525150;mm1;x1;)", "rows(50, 51, 52)", "spell(s7;)"};
    private static final String KEY = "0:0 -1:-1 2:-1 most:-1";
    private static final String MACHINE = "0:0 -1:-1 1:-1 least:-1";
    private static final String TOOTH = "4:0 -1:-1 5:-1";
    private static final String WHAT = "0:0 1:0 -1:-2 2:-2";
    private static final String HEIGHT = "99:0 -1:-4 100:-6 least:-4 most:-6";

    public static void main(String[] args) {
        bareShop();
        fullShop();
        usedUpShop();
        nothingThere();
        EDGE.end();
    }

    private static int[] order(int... numbers) {
        return numbers;
    }

    /** Every mix of a call's arguments, each told as value:refusal (0 if right); state is what it is refused for anyhow. */
    private static void mixes(String name, int[] order, int state, String... arguments) {
        List<String> texts = new ArrayList<>(List.of(""));
        List<Integer> refused = new ArrayList<>(List.of(1 << -state));
        for (String argument : arguments) {
            List<String> longer = new ArrayList<>();
            List<Integer> more = new ArrayList<>();
            for (int i = 0; i < texts.size(); i++) {
                for (String value : argument.split(" ")) {
                    String[] told = value.split(":");
                    longer.add(texts.get(i) + (texts.get(i).isEmpty() ? "" : ", ") + told[0]);
                    more.add(refused.get(i) | 1 << -Integer.parseInt(told[1]));
                }
            }
            texts = longer;
            refused = more;
        }
        for (int i = 0; i < texts.size(); i++) {
            first(order, refused.get(i), name + "(" + texts.get(i) + ")");
        }
    }

    private static void first(int[] order, int refused, String call) {
        for (int number : order) {
            if ((refused >> -number & 1) == 1) {
                EDGE.refused("the first that fits", number, call);
                return;
            }
        }
    }

    private static void bareShop() {
        EDGE.from(SHOP);
        mixes("letter", order(-4, -6), 0, "-1:-4 least:-4 256:-6 most:-6");
        mixes("key", order(-1, -2), 0, KEY, "0:0 9:0 -1:-2 10:-2");
        mixes("machine", order(-1, -2), 0, MACHINE, WHAT);
        mixes("sets", order(-1, -4, -6), 0, TOOTH, HEIGHT);
        mixes("slack", order(-4, -6), 0, "-1:-4 10:-6");
        mixes("files", order(-1, -4, -6), 0, KEY, TOOTH, HEIGHT);
        mixes("turn", order(-1, -2, -4, -6), 0, MACHINE, "5:0 -1:-2 6:-2", "9:0 -1:-4 10:-6");
        mixes("cut", order(-1, -3, -6), 0, KEY + " 1:-3", MACHINE);
        mixes("uses", order(-1, -4, -6, -3), 0, KEY + " 1:-3", "99:0 0:-4 -1:-4 100:-6");
        mixes("snaps", order(-1, -3), 0, KEY + " 1:-3");
        mixes("family", order(-1, -2), 0, KEY, "3:0 -1:-2 4:-2");
        mixes("common", order(-1), 0, KEY, KEY);
        mixes("inRow", order(-1, -2), 0, KEY, MACHINE, WHAT);
        mixes("first", order(-4, -6, -1), 0, "3:0 0:-4 -1:-4 4:-6 most:-6", TOOTH);
        mixes("unlike", order(-4, -6, -1), 0, "3:0 0:-4 -1:-4 4:-6 most:-6", KEY);
        mixes("slip", order(-1, -4, -6, -2), 0, "0:0 2:-1", "0:0 1:-1", "6:0 -1:-4 7:-6", "20:0 1:-4 21:-6", WHAT);
        mixes("two", order(-1), 0, KEY, TOOTH);
        mixes("which", order(-1, -4, -6, -2, -3), -3, KEY, "9:0 -1:-4 10:-6", WHAT);
        mixes("row", order(-4, -6), 0, "-1:-4 100:-6");
        mixes("lots", order(-4, -6, -2, -3), 0, "20:0 0:-4 -1:-4 21:-6", "0:0 most:0", WHAT);
        EDGE.from(SHOP[0], SHOP[1], "rows(50, 51, 52, 53, 54)", SHOP[3]);
        mixes("which", order(-1, -4, -6, -2, -3), 0, KEY, "9:0 -1:-4 10:-6", WHAT);
    }

    /** No room for letters, KEYS or numbers of the ROW. */
    private static void fullShop() {
        EDGE.from("image()", "tell(k5051525354;k5453525150;mm1;)", "8 x cut(0, 0)", "snaps(1)", "12 x row(50)",
            "96 x letter(115)");
        mixes("letter", order(-4, -6), -6, "0:0 255:0 -1:-4 256:-6");
        mixes("cut", order(-1, -3, -6), -6, "0:0 9:0 1:-3 -1:-1 10:-1", MACHINE);
        mixes("row", order(-4, -6), -6, "0:0 99:0 -1:-4 100:-6");
        mixes("which", order(-1, -4, -6, -2, -3), -3, "9:0 10:-1", "9:0 -1:-4 10:-6", WHAT);
    }

    private static void usedUpShop() {
        EDGE.from("image()", "tell(k5051525354;k5453525150;x1;)", "101 x uses(0, 99)");
        mixes("uses", order(-1, -4, -6, -3), -6, KEY + " 1:-3", "1:0 99:0 0:-4 100:-6");
        EDGE.from("image()", "tell(k5051525354;k5453525150;x1;)", "100 x uses(0, 99)", "uses(0, 50)");
        mixes("uses", order(-1, -4, -6, -3), 0, KEY + " 1:-3", "49:0 0:-4 50:-6 100:-6");
    }

    private static void nothingThere() {
        EDGE.from();
        mixes("lots", order(-4, -6, -2, -3), -3, "20:0 1:0 0:-4 21:-6", "0:0", WHAT);
        mixes("first", order(-4, -6, -1), 0, "0:-4 -1:-4 1:-6 most:-6", TOOTH);
        mixes("unlike", order(-4, -6, -1), -1, "0:-4 -1:-4 1:-6 most:-6", "0:0 1:0 -1:0");
        mixes("cut", order(-1, -3, -6), -1, "0:0 1:0", "0:0 1:0");
        mixes("turn", order(-1, -2, -4, -6), -1, "0:0 1:0", "0:0 6:-2", "0:0 -1:-4 10:-6");
        mixes("slip", order(-1, -4, -6, -2), -1, "0:0", "0:0", "6:0 -1:-4 7:-6", "20:0 1:-4 21:-6", WHAT);
        mixes("which", order(-1, -4, -6, -2, -3), -1, "0:0", "0:0 -1:-4 10:-6", WHAT);
        mixes("files", order(-1, -4, -6), -1, "0:0", TOOTH, HEIGHT);
        EDGE.from("tell(mm1;)");
        mixes("lots", order(-4, -6, -2, -3), -3, "20:0 1:0 0:-4 21:-6", "0:0", WHAT);
        EDGE.from("tell(k5050505050;)");
        mixes("lots", order(-4, -6, -2, -3), -3, "20:0 1:0 0:-4 21:-6", "0:0", WHAT);
        mixes("on", order(-3), -3);
    }
}
