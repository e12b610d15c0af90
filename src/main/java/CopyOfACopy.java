import java.util.Arrays;

/**
 * A lock, its keys and the machines that copy them, as ../shared/DOC.md tells it. Words in capitals in the comments
 * are the document's terms.
 */
public final class CopyOfACopy {
    private static final int TEETH = 5;
    private static final int MOST_KEYS = 10;
    private static final int MOST_MACHINES = 5;
    private static final int MOST_HEIGHT = 99;
    private static final int MOST_FIGURE = 9;
    private static final int MOST_SLACK = 9;
    private static final int MOST_USES = 9999;
    private static final int MOST_USES_AT_ONCE = 99;
    private static final int MOST_LETTERS = 96;
    private static final int MOST_LETTER = 255;
    private static final int MOST_TOLD = 12;
    private static final int MOST_COPIES = 6;
    private static final int LEAST_ODDS = 2;
    private static final int MOST_ODDS = 20;
    private static final int MOST_LOTS = 20;
    private static final int KINDS = 6;

    private static final int NONE = -9;

    private static final int FINE = 0;
    private static final int NOBODY = -1;
    private static final int OTHER = -2;
    private static final int STATE = -3;
    private static final int BELOW = -4;
    private static final int ROOM = -6;

    private static final int SHAPE_FAULT = -1000;
    private static final int SENSE_FAULT = -2000;
    private static final int MEND_REFUSED = 1000000000;
    private static final long LONG_REFUSED = 4000000000000000000L;

    private final Shop shop;
    private final Shop trial;
    private final Shop image;
    private boolean imageTaken;
    private final Mind mind;
    private final Text text;
    private final int[] told;
    private int toldCount;
    private final int[] refusals;

    public CopyOfACopy() {
        shop = new Shop();
        trial = new Shop();
        image = new Shop();
        imageTaken = false;
        mind = new Mind();
        text = new Text();
        told = new int[MOST_TOLD];
        toldCount = 0;
        refusals = new int[1 - ROOM];
    }

    public int letter(int c) {
        if (c < 0) {
            return refuse(BELOW);
        }
        if (c > MOST_LETTER || text.isFull()) {
            return refuse(ROOM);
        }
        return text.take(c);
    }

    public int lock() {
        int answer;
        int misshapen = text.misshapenPlace();
        if (misshapen != NONE) {
            answer = SHAPE_FAULT - misshapen;
        } else {
            // Tried on a shop apart, as with a FAULT nothing of the text may come.
            trial.becomes(shop);
            answer = text.happenIn(trial);
            if (answer >= 0) {
                shop.becomes(trial);
            }
        }
        text.forget();
        return answer;
    }

    public int pin(int tooth) {
        if (!isTooth(tooth)) {
            return refuse(NOBODY);
        }
        return shop.pins[tooth];
    }

    public int key(int key, int what) {
        if (!shop.hasKey(key)) {
            return refuse(NOBODY);
        }
        if (isTooth(what)) {
            return shop.heights[key][what];
        }
        switch (what) {
            case 5:
                return shop.from[key];
            case 6:
                return shop.snapped[key] ? 1 : 0;
            case 7:
                return shop.opens(key) ? 1 : 0;
            case 8:
                return shop.wiggleOf(shop.heights[key]);
            case 9:
                return shop.worstTooth(shop.heights[key]);
            default:
                return refuse(OTHER);
        }
    }

    public int machine(int machine, int what) {
        if (!shop.hasMachine(machine)) {
            return refuse(NOBODY);
        }
        if (!isZeroOrOne(what)) {
            return refuse(OTHER);
        }
        return what == 0 ? shop.kinds[machine] : shop.figures[machine];
    }

    public int sets(int tooth, int v) {
        if (!isTooth(tooth)) {
            return refuse(NOBODY);
        }
        int refusal = outside(v, 0, MOST_HEIGHT);
        if (refusal != FINE) {
            return refuse(refusal);
        }
        int was = shop.pins[tooth];
        shop.pins[tooth] = v;
        return was;
    }

    public int slack(int v) {
        int refusal = outside(v, 0, MOST_SLACK);
        if (refusal != FINE) {
            return refuse(refusal);
        }
        int was = shop.slack;
        shop.slack = v;
        return was;
    }

    public int files(int key, int tooth, int v) {
        if (!shop.hasKey(key) || !isTooth(tooth)) {
            return refuse(NOBODY);
        }
        int refusal = outside(v, 0, MOST_HEIGHT);
        if (refusal != FINE) {
            return refuse(refusal);
        }
        int was = shop.heights[key][tooth];
        shop.heights[key][tooth] = v;
        return was;
    }

    public int turn(int machine, int kind, int figure) {
        if (!shop.hasMachine(machine)) {
            return refuse(NOBODY);
        }
        if (kind < 0 || kind >= KINDS) {
            return refuse(OTHER);
        }
        int refusal = outside(figure, 0, MOST_FIGURE);
        if (refusal != FINE) {
            return refuse(refusal);
        }
        int was = 10 * shop.kinds[machine] + shop.figures[machine];
        shop.kinds[machine] = kind;
        shop.figures[machine] = figure;
        return was;
    }

    public int cut(int key, int machine) {
        if (!shop.hasKey(key) || !shop.hasMachine(machine)) {
            return refuse(NOBODY);
        }
        if (shop.snapped[key]) {
            return refuse(STATE);
        }
        if (shop.keys >= MOST_KEYS) {
            return refuse(ROOM);
        }
        return shop.addCopy(key, machine);
    }

    public int uses(int key, int n) {
        if (!shop.hasKey(key)) {
            return refuse(NOBODY);
        }
        if (n < 1) {
            return refuse(BELOW);
        }
        if (n > MOST_USES_AT_ONCE || shop.uses + n > MOST_USES) {
            return refuse(ROOM);
        }
        if (shop.snapped[key]) {
            return refuse(STATE);
        }
        shop.wear(key, n);
        return shop.opens(key) ? 1 : 0;
    }

    public int snaps(int key) {
        if (!shop.hasKey(key)) {
            return refuse(NOBODY);
        }
        if (shop.snapped[key]) {
            return refuse(STATE);
        }
        shop.snapped[key] = true;
        return shop.keys - Integer.bitCount(shop.snappedBits());
    }

    public int opening() {
        return shop.openingBits();
    }

    public int family(int key, int what) {
        if (!shop.hasKey(key)) {
            return refuse(NOBODY);
        }
        switch (what) {
            case 0:
                return Family.depthOf(shop, key);
            case 1:
                return Family.rootOf(shop, key);
            case 2:
                return Family.childrenOf(shop, key);
            case 3:
                return Family.heirsOf(shop, key);
            default:
                return refuse(OTHER);
        }
    }

    public int common(int one, int other) {
        if (!shop.hasKey(one) || !shop.hasKey(other)) {
            return refuse(NOBODY);
        }
        return Family.commonOf(shop, one, other);
    }

    public int nearest() {
        return shop.nearestKey();
    }

    public int next(int what) {
        if (!isZeroOrOne(what)) {
            return refuse(OTHER);
        }
        return mind.bestNext(shop, what == 1);
    }

    public int inRow(int key, int machine, int what) {
        if (!shop.hasKey(key) || !shop.hasMachine(machine)) {
            return refuse(NOBODY);
        }
        if (!isZeroOrOne(what)) {
            return refuse(OTHER);
        }
        return what == 0 ? mind.copiesThatOpen(shop, key, machine) : mind.toothThatGoesFirst(shop, key, machine);
    }

    public int lasts(int key) {
        if (!shop.hasKey(key)) {
            return refuse(NOBODY);
        }
        return mind.usesTillShut(shop, key);
    }

    public int fit(int key) {
        if (!shop.hasKey(key)) {
            return refuse(NOBODY);
        }
        int worst = shop.worstTooth(shop.heights[key]);
        return Math.abs(shop.heights[key][worst] - shop.pins[worst]);
    }

    public int anew(int tooth) {
        if (tooth == -1) {
            return mind.openAnew(shop);
        }
        if (!isTooth(tooth)) {
            return refuse(NOBODY);
        }
        return mind.pinAnew(shop, tooth);
    }

    public int first(int set, int tooth) {
        int refusal = outside(set, 1, shop.allKeysBits());
        if (refusal != FINE) {
            return refuse(refusal);
        }
        if (!isTooth(tooth)) {
            return refuse(NOBODY);
        }
        return mind.codeOfSet(shop, set, tooth);
    }

    public int unlike(int set, int key) {
        int refusal = outside(set, 1, shop.allKeysBits());
        if (refusal != FINE) {
            return refuse(refusal);
        }
        if (!shop.hasKey(key)) {
            return refuse(NOBODY);
        }
        return mind.unlikeTeeth(shop, set, key);
    }

    public int mend(int key) {
        if (!shop.hasKey(key)) {
            return MEND_REFUSED - refuse(NOBODY);
        }
        return mind.lessByMending(shop, key);
    }

    public int line(int key) {
        if (!shop.hasKey(key)) {
            return refuse(NOBODY);
        }
        return Family.openHeirsOf(shop, key);
    }

    public int bestLine() {
        return Family.bestRoot(shop);
    }

    public int ask(int key) {
        if (!shop.hasKey(key)) {
            return refuse(NOBODY);
        }
        return Family.whomToAsk(shop, key);
    }

    public int spare() {
        return mind.fewestEnough(shop);
    }

    public long slip(int key, int machine, int n, int t, int part) {
        if (!shop.hasKey(key) || !shop.hasMachine(machine)) {
            return LONG_REFUSED - refuse(NOBODY);
        }
        if (n < 0 || t < LEAST_ODDS) {
            return LONG_REFUSED - refuse(BELOW);
        }
        if (n > MOST_COPIES || t > MOST_ODDS) {
            return LONG_REFUSED - refuse(ROOM);
        }
        if (!isZeroOrOne(part)) {
            return LONG_REFUSED - refuse(OTHER);
        }
        long above = mind.waysToOpen(shop, key, machine, n, t);
        long below = power(t, n);
        long divisor = Math.max(1, greatestDivisor(above, below));
        return part == 0 ? above / divisor : below / divisor;
    }

    public int two(int key, int tooth) {
        if (!shop.hasKey(key) || !isTooth(tooth)) {
            return refuse(NOBODY);
        }
        return mind.steadyPair(shop, shop.heights[key][tooth], tooth);
    }

    public int which(int key, int figure, int what) {
        if (!shop.hasKey(key)) {
            return refuse(NOBODY);
        }
        int refusal = outside(figure, 0, MOST_FIGURE);
        if (refusal != FINE) {
            return refuse(refusal);
        }
        if (!isZeroOrOne(what)) {
            return refuse(OTHER);
        }
        if (toldCount != TEETH) {
            return refuse(STATE);
        }
        return what == 0 ? mind.machinesThatCut(shop, key, told) : mind.kindsThatCut(shop, key, figure, told);
    }

    public int row(int v) {
        if (v < 0) {
            return refuse(BELOW);
        }
        if (v > MOST_HEIGHT || toldCount >= MOST_TOLD) {
            return refuse(ROOM);
        }
        told[toldCount] = v;
        toldCount++;
        return toldCount;
    }

    public int judge(int key) {
        if (!shop.hasKey(key)) {
            return refuse(NOBODY);
        }
        int answer = firstToldWrong(shop.heights[key]);
        toldCount = 0;
        return answer;
    }

    public int clear() {
        int had = toldCount;
        toldCount = 0;
        return had;
    }

    public int lots(int n, int z, int what) {
        int refusal = outside(n, 1, MOST_LOTS);
        if (refusal != FINE) {
            return refuse(refusal);
        }
        if (!isZeroOrOne(what)) {
            return refuse(OTHER);
        }
        if (shop.keys == 0 || shop.machines == 0) {
            return refuse(STATE);
        }
        return mind.drawLots(shop, n, z, what == 1);
    }

    public int image() {
        image.becomes(shop);
        imageTaken = true;
        return shop.uses;
    }

    public int on() {
        if (!imageTaken) {
            return refuse(STATE);
        }
        shop.becomes(image);
        return shop.uses;
    }

    public int count(int what) {
        switch (what) {
            case 0:
                return shop.keys;
            case 1:
                return shop.machines;
            case 2:
                return shop.uses;
            case 3:
                return shop.slack;
            case 4:
                return shop.snappedBits();
            case 5:
                return Integer.bitCount(shop.openingBits());
            case 6:
                return toldCount;
            case 7:
                return text.size();
            default:
                return what >= 11 && what <= 16 ? refusals[what - 10] : NONE;
        }
    }

    private int refuse(int number) {
        if (number <= NOBODY && number >= ROOM) {
            refusals[-number]++;
        }
        return number;
    }

    private int firstToldWrong(int[] heights) {
        for (int i = 0; i < toldCount; i++) {
            if (i >= TEETH || told[i] != heights[i]) {
                return i;
            }
        }
        return NONE;
    }

    private static boolean isTooth(int tooth) {
        return tooth >= 0 && tooth < TEETH;
    }

    private static boolean isZeroOrOne(int what) {
        return what == 0 || what == 1;
    }

    /** Which refusal a number out of its bounds calls for. */
    private static int outside(int v, int least, int most) {
        if (v < least) {
            return BELOW;
        }
        return v > most ? ROOM : FINE;
    }

    /** Whether a set (bits) has a KEY in it. */
    private static boolean holds(int set, int key) {
        return (set >> key & 1) == 1;
    }

    private static long power(long base, int exponent) {
        long product = 1;
        for (int i = 0; i < exponent; i++) {
            product *= base;
        }
        return product;
    }

    private static long greatestDivisor(long one, long other) {
        long a = one;
        long b = other;
        // Euclid needs fewer than 100 steps for any two longs.
        for (int step = 0; step < 100 && b != 0; step++) {
            long rest = a % b;
            a = b;
            b = rest;
        }
        return a;
    }

    /** What the KINDS of MACHINES do to one HEIGHT. */
    private static final class Cutter {
        /** The place of a KIND's letter is its number. */
        static final String KIND_LETTERS = "mhwrsg";
        private static final int HIGH = 1;
        private static final int WOBBLY = 2;
        private static final int ROUND = 3;
        private static final int SLOPED = 4;
        private static final int GOOD = 5;

        private Cutter() {
        }

        static int cutHeight(int kind, int figure, int height, int tooth) {
            switch (kind) {
                case HIGH:
                    return held(height + figure);
                case WOBBLY:
                    return tooth % 2 == 0 ? held(height - figure) : height;
                case ROUND:
                    return held(nearestTen(held(height - figure)));
                case SLOPED:
                    return held(held(height + figure) + tooth);
                case GOOD:
                    return held(nearestTen(height));
                default:
                    return held(height - figure);
            }
        }

        static int held(int height) {
            if (height < 0) {
                return 0;
            }
            return height > MOST_HEIGHT ? MOST_HEIGHT : height;
        }

        /** Of two as near as one another the lower: 5 goes down, 6 goes up. */
        static int nearestTen(int height) {
            return (height + 4) / 10 * 10;
        }

        static int codeOf(int height) {
            return Math.min(90, nearestTen(height));
        }
    }

    /** All that THE IMAGE keeps: THE LOCK, KEYS, MACHINES, USES. */
    private static final class Shop {
        final int[] pins;
        int slack;
        int keys;
        final int[][] heights;
        final int[] from;
        final boolean[] snapped;
        int machines;
        final int[] kinds;
        final int[] figures;
        int uses;

        Shop() {
            pins = new int[TEETH];
            Arrays.fill(pins, 50);
            slack = 2;
            keys = 0;
            heights = new int[MOST_KEYS][TEETH];
            from = new int[MOST_KEYS];
            snapped = new boolean[MOST_KEYS];
            machines = 0;
            kinds = new int[MOST_MACHINES];
            figures = new int[MOST_MACHINES];
            uses = 0;
        }

        void becomes(Shop other) {
            System.arraycopy(other.pins, 0, pins, 0, TEETH);
            slack = other.slack;
            keys = other.keys;
            for (int key = 0; key < MOST_KEYS; key++) {
                System.arraycopy(other.heights[key], 0, heights[key], 0, TEETH);
                from[key] = other.from[key];
                snapped[key] = other.snapped[key];
            }
            machines = other.machines;
            System.arraycopy(other.kinds, 0, kinds, 0, MOST_MACHINES);
            System.arraycopy(other.figures, 0, figures, 0, MOST_MACHINES);
            uses = other.uses;
        }

        boolean hasKey(int key) {
            return key >= 0 && key < keys;
        }

        boolean hasMachine(int machine) {
            return machine >= 0 && machine < machines;
        }

        boolean hasWholeKey(int key) {
            return hasKey(key) && !snapped[key];
        }

        /** A KEY more, its HEIGHTS still to be told; NONE without room. */
        int addKey(int parent) {
            if (keys >= MOST_KEYS) {
                return NONE;
            }
            from[keys] = parent;
            snapped[keys] = false;
            keys++;
            return keys - 1;
        }

        int addCopy(int key, int machine) {
            if (!hasKey(key) || !hasMachine(machine)) {
                return NONE;
            }
            int added = addKey(key);
            if (added == NONE) {
                return NONE;
            }
            for (int tooth = 0; tooth < TEETH; tooth++) {
                heights[added][tooth] = cutBy(machine, heights[key][tooth], tooth);
            }
            return added;
        }

        boolean addMachine(int kind, int figure) {
            if (machines >= MOST_MACHINES) {
                return false;
            }
            kinds[machines] = kind;
            figures[machines] = figure;
            machines++;
            return true;
        }

        int cutBy(int machine, int height, int tooth) {
            return Cutter.cutHeight(kinds[machine], figures[machine], height, tooth);
        }

        void wear(int key, int n) {
            for (int tooth = 0; tooth < TEETH; tooth++) {
                heights[key][tooth] = wornHeight(heights[key][tooth], n);
                pins[tooth] = wornPin(pins[tooth], n);
            }
            uses += n;
        }

        static int wornHeight(int height, int n) {
            return Math.max(0, height - n / 10);
        }

        static int wornPin(int pin, int n) {
            return Math.max(0, pin - n / 20);
        }

        boolean opens(int key) {
            return !snapped[key] && fits(heights[key]);
        }

        boolean fits(int[] row) {
            return leastTooFar(row) == NONE;
        }

        /** The least of TEETH that is farther from its PIN than SLACK; NONE. */
        int leastTooFar(int[] row) {
            for (int tooth = 0; tooth < TEETH; tooth++) {
                if (Math.abs(row[tooth] - pins[tooth]) > slack) {
                    return tooth;
                }
            }
            return NONE;
        }

        int wiggleOf(int[] row) {
            int wiggle = 0;
            for (int tooth = 0; tooth < TEETH; tooth++) {
                wiggle += Math.abs(row[tooth] - pins[tooth]);
            }
            return wiggle;
        }

        int worstTooth(int[] row) {
            int worst = 0;
            for (int tooth = 1; tooth < TEETH; tooth++) {
                if (Math.abs(row[tooth] - pins[tooth]) > Math.abs(row[worst] - pins[worst])) {
                    worst = tooth;
                }
            }
            return worst;
        }

        int allKeysBits() {
            return (1 << keys) - 1;
        }

        int openingBits() {
            int bits = 0;
            for (int key = 0; key < keys; key++) {
                bits |= opens(key) ? 1 << key : 0;
            }
            return bits;
        }

        int snappedBits() {
            int bits = 0;
            for (int key = 0; key < keys; key++) {
                bits |= snapped[key] ? 1 << key : 0;
            }
            return bits;
        }

        int nearestKey() {
            return leastWiggleOf(allKeysBits() & ~snappedBits());
        }

        /** Of a set of KEYS (bits) the one with least WIGGLE, of several the least; NONE. */
        int leastWiggleOf(int set) {
            int best = NONE;
            int least = 0;
            for (int key = 0; key < keys; key++) {
                if (!holds(set, key)) {
                    continue;
                }
                int wiggle = wiggleOf(heights[key]);
                if (best == NONE || wiggle < least) {
                    best = key;
                    least = wiggle;
                }
            }
            return best;
        }
    }

    /** The letters that have come, and how they become a LOCK. */
    private static final class Text {
        private final int[] letters;
        private int size;

        Text() {
            letters = new int[MOST_LETTERS];
            size = 0;
        }

        int size() {
            return size;
        }

        boolean isFull() {
            return size >= MOST_LETTERS;
        }

        int take(int letter) {
            if (size < MOST_LETTERS) {
                letters[size] = letter;
                size++;
            }
            return size;
        }

        void forget() {
            size = 0;
        }

        /** The place of a FAULT of kind 1; NONE. */
        int misshapenPlace() {
            if (size == 0) {
                return 0;
            }
            int place = 0;
            while (place < size) {
                String shape = shapeBehind(letters[place]);
                if (shape.isEmpty()) {
                    return place;
                }
                // Past the first letter before the shape is looked at, so that each round goes on.
                place++;
                for (int i = 0; i < shape.length(); i++) {
                    if (place >= size || !fitsShape(shape.charAt(i), letters[place])) {
                        return place;
                    }
                    place++;
                }
            }
            return NONE;
        }

        /** All STATEMENTS in a shop: how many; with a FAULT of kind 2 that, and the shop is left half done. */
        int happenIn(Shop shop) {
            int statements = 0;
            int place = 0;
            while (place < size) {
                if (!happens(shop, place)) {
                    return SENSE_FAULT - place;
                }
                statements++;
                place += 1 + shapeBehind(letters[place]).length();
            }
            return statements;
        }

        private boolean happens(Shop shop, int place) {
            int digit = digitAt(place + 1);
            switch (letterAt(place)) {
                case 'l':
                    readFive(place + 1, shop.pins);
                    return true;
                case 'k':
                    return keyComes(shop, place + 1);
                case 'm':
                    return shop.addMachine(kindAt(place + 1), digitAt(place + 2));
                case 'c':
                    return shop.hasWholeKey(digit) && shop.addCopy(digit, digitAt(place + 2)) != NONE;
                case 'u':
                    return isUsed(shop, digit, twoDigitsAt(place + 2));
                case 's':
                    shop.slack = digit;
                    return true;
                case 'x':
                    return isSnapped(shop, digit);
                default:
                    return false;
            }
        }

        private boolean keyComes(Shop shop, int place) {
            int added = shop.addKey(NONE);
            if (added == NONE) {
                return false;
            }
            readFive(place, shop.heights[added]);
            return true;
        }

        private static boolean isUsed(Shop shop, int key, int n) {
            if (!shop.hasWholeKey(key) || shop.uses + n > MOST_USES) {
                return false;
            }
            shop.wear(key, n);
            return true;
        }

        private static boolean isSnapped(Shop shop, int key) {
            if (!shop.hasWholeKey(key)) {
                return false;
            }
            shop.snapped[key] = true;
            return true;
        }

        private void readFive(int place, int[] into) {
            for (int tooth = 0; tooth < TEETH; tooth++) {
                into[tooth] = twoDigitsAt(place + 2 * tooth);
            }
        }

        private int letterAt(int place) {
            return place >= 0 && place < size ? letters[place] : 0;
        }

        private int digitAt(int place) {
            return Math.max(0, Math.min(9, letterAt(place) - '0'));
        }

        private int twoDigitsAt(int place) {
            return 10 * digitAt(place) + digitAt(place + 1);
        }

        private int kindAt(int place) {
            return Math.max(0, Cutter.KIND_LETTERS.indexOf((char) letterAt(place)));
        }

        /** What must stand behind a STATEMENT's first letter: 0 a digit, k a KIND; empty if none begins so. */
        private static String shapeBehind(int letter) {
            switch (letter) {
                case 'l':
                case 'k':
                    return "0000000000;";
                case 'm':
                    return "k0;";
                case 'c':
                    return "00;";
                case 'u':
                    return "000;";
                case 's':
                case 'x':
                    return "0;";
                default:
                    return "";
            }
        }

        private static boolean fitsShape(char shape, int letter) {
            switch (shape) {
                case '0':
                    return letter >= '0' && letter <= '9';
                case 'k':
                    return Cutter.KIND_LETTERS.indexOf((char) letter) >= 0;
                default:
                    return letter == shape;
            }
        }
    }

    /** Who comes from whom. A KEY's FROM is always less than the KEY itself, as no KEY ever goes. */
    private static final class Family {
        private Family() {
        }

        static int depthOf(Shop shop, int key) {
            return Integer.bitCount(elders(shop, key)) - 1;
        }

        /** The least of a KEY and all ahead of it is the first of these. */
        static int rootOf(Shop shop, int key) {
            return Integer.numberOfTrailingZeros(elders(shop, key));
        }

        static int childrenOf(Shop shop, int key) {
            return Integer.bitCount(childBits(shop, key));
        }

        static int heirsOf(Shop shop, int key) {
            int heirs = 1 << key;
            for (int later = key + 1; later < shop.keys; later++) {
                int parent = shop.from[later];
                if (parent >= 0 && holds(heirs, parent)) {
                    heirs |= 1 << later;
                }
            }
            return heirs;
        }

        /** Of those from which both come the greatest is the nearest, as each comes from all the others. */
        static int commonOf(Shop shop, int one, int other) {
            int both = elders(shop, one) & elders(shop, other);
            return both == 0 ? NONE : 31 - Integer.numberOfLeadingZeros(both);
        }

        static int openHeirsOf(Shop shop, int key) {
            return Integer.bitCount(heirsOf(shop, key) & shop.openingBits());
        }

        static int bestRoot(Shop shop) {
            int opening = shop.openingBits();
            int best = NONE;
            int most = 0;
            for (int key = 0; key < shop.keys; key++) {
                if (shop.from[key] >= 0) {
                    continue;
                }
                int open = Integer.bitCount(heirsOf(shop, key) & opening);
                if (best == NONE || open > most) {
                    best = key;
                    most = open;
                }
            }
            return best;
        }

        static int whomToAsk(Shop shop, int key) {
            int near = childBits(shop, key);
            int parent = shop.from[key];
            // Two KEYS FROM none are not from the same one.
            if (parent >= 0) {
                near |= (1 << parent) | childBits(shop, parent);
            }
            return shop.leastWiggleOf(near & ~(1 << key) & shop.openingBits());
        }

        private static int childBits(Shop shop, int key) {
            int bits = 0;
            for (int later = key + 1; later < shop.keys; later++) {
                bits |= shop.from[later] == key ? 1 << later : 0;
            }
            return bits;
        }

        /** A KEY and all ahead of it (bits). */
        private static int elders(Shop shop, int key) {
            int bits = 0;
            int elder = key;
            for (int step = 0; step < MOST_KEYS && shop.hasKey(elder); step++) {
                bits |= 1 << elder;
                elder = shop.from[elder];
            }
            return bits;
        }
    }

    /** Reckonings about what is not, but might be. Its rows are made once and used by every call anew. */
    private static final class Mind {
        private static final int LONGEST_ROW = 30;
        private static final int LONGEST_USE = 999;
        private static final int ALL_TEETH = (1 << TEETH) - 1;

        private final int[] copy;
        private final int[] within;
        private int seed;

        Mind() {
            copy = new int[TEETH];
            within = new int[MOST_KEYS];
            seed = 0;
        }

        private void takeKey(Shop shop, int key) {
            System.arraycopy(shop.heights[key], 0, copy, 0, TEETH);
        }

        private void cutCopy(int kind, int figure) {
            for (int tooth = 0; tooth < TEETH; tooth++) {
                copy[tooth] = Cutter.cutHeight(kind, figure, copy[tooth], tooth);
            }
        }

        private void cutCopyBy(Shop shop, int machine) {
            cutCopy(shop.kinds[machine], shop.figures[machine]);
        }

        int bestNext(Shop shop, boolean tellsWiggle) {
            int best = NONE;
            int least = NONE;
            for (int key = 0; key < shop.keys; key++) {
                for (int machine = 0; machine < shop.machines && !shop.snapped[key]; machine++) {
                    takeKey(shop, key);
                    cutCopyBy(shop, machine);
                    int wiggle = shop.wiggleOf(copy);
                    if (best == NONE || wiggle < least) {
                        best = 10 * key + machine;
                        least = wiggle;
                    }
                }
            }
            return tellsWiggle ? least : best;
        }

        int copiesThatOpen(Shop shop, int key, int machine) {
            takeKey(shop, key);
            for (int open = 0; open < LONGEST_ROW; open++) {
                cutCopyBy(shop, machine);
                if (!shop.fits(copy)) {
                    return open;
                }
            }
            return LONGEST_ROW;
        }

        int toothThatGoesFirst(Shop shop, int key, int machine) {
            takeKey(shop, key);
            for (int open = 0; open < LONGEST_ROW; open++) {
                cutCopyBy(shop, machine);
                int tooth = shop.leastTooFar(copy);
                if (tooth != NONE) {
                    return tooth;
                }
            }
            return NONE;
        }

        int usesTillShut(Shop shop, int key) {
            for (int n = 0; n <= LONGEST_USE; n++) {
                if (shop.snapped[key] || !opensWorn(shop, key, n)) {
                    return n;
                }
            }
            return NONE;
        }

        private boolean opensWorn(Shop shop, int key, int n) {
            for (int tooth = 0; tooth < TEETH; tooth++) {
                int height = Shop.wornHeight(shop.heights[key][tooth], n);
                int pin = Shop.wornPin(shop.pins[tooth], n);
                if (Math.abs(height - pin) > shop.slack) {
                    return false;
                }
            }
            return true;
        }

        int pinAnew(Shop shop, int tooth) {
            int best = 0;
            int most = 0;
            for (int pin = 0; pin <= MOST_HEIGHT; pin++) {
                int keys = wholeKeysWithin(shop, tooth, pin);
                if (keys > most) {
                    best = pin;
                    most = keys;
                }
            }
            return best;
        }

        private int wholeKeysWithin(Shop shop, int tooth, int pin) {
            int keys = 0;
            for (int key = 0; key < shop.keys; key++) {
                if (!shop.snapped[key] && Math.abs(shop.heights[key][tooth] - pin) <= shop.slack) {
                    keys++;
                }
            }
            return keys;
        }

        int openAnew(Shop shop) {
            for (int tooth = 0; tooth < TEETH; tooth++) {
                copy[tooth] = pinAnew(shop, tooth);
            }
            int open = 0;
            for (int key = 0; key < shop.keys; key++) {
                if (!shop.snapped[key] && teethWithin(shop, key, copy) == ALL_TEETH) {
                    open++;
                }
            }
            return open;
        }

        /** Of a KEY those of TEETH (bits) that are within SLACK of a row of PINS. */
        private int teethWithin(Shop shop, int key, int[] pins) {
            int bits = 0;
            for (int tooth = 0; tooth < TEETH; tooth++) {
                bits |= Math.abs(shop.heights[key][tooth] - pins[tooth]) <= shop.slack ? 1 << tooth : 0;
            }
            return bits;
        }

        int codeOfSet(Shop shop, int set, int tooth) {
            return Cutter.codeOf(middleHeight(shop, set, tooth));
        }

        /** The lower middle one is the least that half of the KEYS or more do not go above. */
        private int middleHeight(Shop shop, int set, int tooth) {
            for (int height = 0; height < MOST_HEIGHT; height++) {
                int notAbove = 0;
                for (int key = 0; key < shop.keys; key++) {
                    if (holds(set, key) && shop.heights[key][tooth] <= height) {
                        notAbove++;
                    }
                }
                if (2 * notAbove >= Integer.bitCount(set)) {
                    return height;
                }
            }
            return MOST_HEIGHT;
        }

        int unlikeTeeth(Shop shop, int set, int key) {
            int unlike = 0;
            for (int tooth = 0; tooth < TEETH; tooth++) {
                if (codeOfSet(shop, set, tooth) != Cutter.codeOf(shop.heights[key][tooth])) {
                    unlike++;
                }
            }
            return unlike;
        }

        int lessByMending(Shop shop, int key) {
            for (int tooth = 0; tooth < TEETH; tooth++) {
                copy[tooth] = Cutter.codeOf(shop.heights[key][tooth]);
            }
            return shop.wiggleOf(shop.heights[key]) - shop.wiggleOf(copy);
        }

        int fewestEnough(Shop shop) {
            for (int key = 0; key < shop.keys; key++) {
                within[key] = teethWithin(shop, key, shop.pins);
            }
            int snapped = shop.snappedBits();
            int best = NONE;
            for (int set = 1; set <= shop.allKeysBits(); set++) {
                boolean fewer = best == NONE || Integer.bitCount(set) < Integer.bitCount(best);
                if (fewer && (set & snapped) == 0 && isEnough(shop, set)) {
                    best = set;
                }
            }
            return best;
        }

        private boolean isEnough(Shop shop, int set) {
            int teeth = 0;
            for (int key = 0; key < shop.keys; key++) {
                teeth |= holds(set, key) ? within[key] : 0;
            }
            return teeth == ALL_TEETH;
        }

        /** Of all t to the n equally likely ways, in how many the last copy OPENS. */
        long waysToOpen(Shop shop, int key, int machine, int n, int t) {
            if (n == 0) {
                return shop.opens(key) ? 1 : 0;
            }
            long ways = 0;
            for (int slips = 0; slips < 1 << n; slips++) {
                if (lastCopyFits(shop, key, machine, n, slips)) {
                    ways += power(t - 1, n - Integer.bitCount(slips));
                }
            }
            return ways;
        }

        /** The bits of slips tell which of the n times FIGURE is 1 more. */
        private boolean lastCopyFits(Shop shop, int key, int machine, int n, int slips) {
            takeKey(shop, key);
            for (int time = 0; time < n; time++) {
                cutCopy(shop.kinds[machine], shop.figures[machine] + (slips >> time & 1));
            }
            return shop.fits(copy);
        }

        int steadyPair(Shop shop, int height, int tooth) {
            for (int one = 0; one < shop.machines; one++) {
                for (int other = 0; other < shop.machines; other++) {
                    if (isSteady(shop, height, tooth, one, other)) {
                        return 10 * one + other;
                    }
                }
            }
            return NONE;
        }

        private boolean isSteady(Shop shop, int height, int tooth, int one, int other) {
            int last = cutTwice(shop, height, tooth, one, other);
            for (int machine = 0; machine < shop.machines; machine++) {
                boolean higher = cutTwice(shop, height, tooth, machine, other) > last;
                boolean lower = cutTwice(shop, height, tooth, one, machine) < last;
                if (higher || lower) {
                    return false;
                }
            }
            return true;
        }

        private int cutTwice(Shop shop, int height, int tooth, int one, int other) {
            return shop.cutBy(other, shop.cutBy(one, height, tooth), tooth);
        }

        int machinesThatCut(Shop shop, int key, int[] told) {
            int bits = 0;
            for (int machine = 0; machine < shop.machines; machine++) {
                bits |= cutsSo(shop, key, shop.kinds[machine], shop.figures[machine], told) ? 1 << machine : 0;
            }
            return bits;
        }

        int kindsThatCut(Shop shop, int key, int figure, int[] told) {
            int bits = 0;
            for (int kind = 0; kind < KINDS; kind++) {
                bits |= cutsSo(shop, key, kind, figure, told) ? 1 << kind : 0;
            }
            return bits;
        }

        private boolean cutsSo(Shop shop, int key, int kind, int figure, int[] told) {
            takeKey(shop, key);
            cutCopy(kind, figure);
            for (int tooth = 0; tooth < TEETH; tooth++) {
                if (copy[tooth] != told[tooth]) {
                    return false;
                }
            }
            return true;
        }

        int drawLots(Shop shop, int n, int z, boolean tellsWiggle) {
            seed = z;
            int open = 0;
            int wiggle = 0;
            for (int time = 0; time < n; time++) {
                takeKey(shop, drawBelow(shop.keys));
                cutCopyBy(shop, drawBelow(shop.machines));
                cutCopyBy(shop, drawBelow(shop.machines));
                open += shop.fits(copy) ? 1 : 0;
                wiggle += shop.wiggleOf(copy);
            }
            return tellsWiggle ? wiggle : open;
        }

        private int drawBelow(int bound) {
            seed = seed * 1664525 + 1013904223;
            return bound < 1 ? 0 : (seed & 0x7fffffff) / 256 % bound;
        }
    }
}
