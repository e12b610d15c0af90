import java.util.ArrayList;
import java.util.List;
import java.util.function.ToLongFunction;

/**
 * One object whose calls are counted and kept. There are never more than the 512 that the document speaks of, and a twin
 * that has had the same calls can be asked what the object itself is to be spared.
 */
final class Counted {
    private static final int MOST_CALLS = 512;

    private final CopyOfACopy x = new CopyOfACopy();
    private final List<ToLongFunction<CopyOfACopy>> calls = new ArrayList<>();

    private int answerOf(ToLongFunction<CopyOfACopy> call) {
        return (int) longAnswerOf(call);
    }

    private long longAnswerOf(ToLongFunction<CopyOfACopy> call) {
        if (calls.size() >= MOST_CALLS) {
            throw new IllegalStateException("more than " + MOST_CALLS + " calls of one object");
        }
        calls.add(call);
        return call.applyAsLong(x);
    }

    int calls() {
        return calls.size();
    }

    Counted twin() {
        Counted twin = new Counted();
        for (ToLongFunction<CopyOfACopy> call : calls) {
            twin.longAnswerOf(call);
        }
        return twin;
    }

    int[] refusals() {
        int[] refusals = new int[7];
        for (int i = 1; i <= 6; i++) {
            refusals[i] = count(10 + i);
        }
        return refusals;
    }

    /** THE LOCK, KEYS, MACHINES, USES. */
    private void tellShop(StringBuilder told) {
        for (int what = 0; what <= 5; what++) {
            told.append(what == 0 ? "counts " : ",").append(count(what));
        }
        for (int tooth = 0; tooth < 5; tooth++) {
            told.append(tooth == 0 ? " pins " : ",").append(pin(tooth));
        }
        int keys = count(0);
        for (int key = 0; key < keys; key++) {
            for (int what = 0; what <= 6; what++) {
                told.append(what == 0 ? " key " : ",").append(key(key, what));
            }
        }
        int machines = count(1);
        for (int machine = 0; machine < machines; machine++) {
            told.append(" machine ").append(machine(machine, 0)).append(',').append(machine(machine, 1));
        }
    }

    /** What THE IMAGE keeps; nothing changes. */
    String shop() {
        StringBuilder told = new StringBuilder();
        tellShop(told);
        return told.toString();
    }

    /** All that can be found out, without REFUSALS: the ROW, letters and THE IMAGE are used up for it. */
    String everything() {
        StringBuilder told = new StringBuilder();
        tellShop(told);
        told.append(" row ").append(count(6)).append(" which ").append(which(0, 0, 0)).append(',').append(which(0, 0, 1));
        told.append(" judged ").append(judge(0)).append(" letters ").append(count(7)).append(" lock ").append(lock());
        for (int what = 0; what <= 5; what++) {
            told.append(',').append(count(what));
        }
        told.append(" on ").append(on()).append(' ');
        tellShop(told);
        return told.toString();
    }

    int letter(int c) {
        return answerOf(o -> o.letter(c));
    }

    int lock() {
        return answerOf(o -> o.lock());
    }

    int pin(int tooth) {
        return answerOf(o -> o.pin(tooth));
    }

    int key(int key, int what) {
        return answerOf(o -> o.key(key, what));
    }

    int machine(int machine, int what) {
        return answerOf(o -> o.machine(machine, what));
    }

    int sets(int tooth, int v) {
        return answerOf(o -> o.sets(tooth, v));
    }

    int slack(int v) {
        return answerOf(o -> o.slack(v));
    }

    int files(int key, int tooth, int v) {
        return answerOf(o -> o.files(key, tooth, v));
    }

    int turn(int machine, int kind, int figure) {
        return answerOf(o -> o.turn(machine, kind, figure));
    }

    int cut(int key, int machine) {
        return answerOf(o -> o.cut(key, machine));
    }

    int uses(int key, int n) {
        return answerOf(o -> o.uses(key, n));
    }

    int snaps(int key) {
        return answerOf(o -> o.snaps(key));
    }

    int opening() {
        return answerOf(o -> o.opening());
    }

    int family(int key, int what) {
        return answerOf(o -> o.family(key, what));
    }

    int common(int one, int other) {
        return answerOf(o -> o.common(one, other));
    }

    int nearest() {
        return answerOf(o -> o.nearest());
    }

    int next(int what) {
        return answerOf(o -> o.next(what));
    }

    int inRow(int key, int machine, int what) {
        return answerOf(o -> o.inRow(key, machine, what));
    }

    int lasts(int key) {
        return answerOf(o -> o.lasts(key));
    }

    int fit(int key) {
        return answerOf(o -> o.fit(key));
    }

    int anew(int tooth) {
        return answerOf(o -> o.anew(tooth));
    }

    int first(int set, int tooth) {
        return answerOf(o -> o.first(set, tooth));
    }

    int unlike(int set, int key) {
        return answerOf(o -> o.unlike(set, key));
    }

    int mend(int key) {
        return answerOf(o -> o.mend(key));
    }

    int line(int key) {
        return answerOf(o -> o.line(key));
    }

    int bestLine() {
        return answerOf(o -> o.bestLine());
    }

    int ask(int key) {
        return answerOf(o -> o.ask(key));
    }

    int spare() {
        return answerOf(o -> o.spare());
    }

    long slip(int key, int machine, int n, int t, int part) {
        return longAnswerOf(o -> o.slip(key, machine, n, t, part));
    }

    int two(int key, int tooth) {
        return answerOf(o -> o.two(key, tooth));
    }

    int which(int key, int figure, int what) {
        return answerOf(o -> o.which(key, figure, what));
    }

    int row(int v) {
        return answerOf(o -> o.row(v));
    }

    int judge(int key) {
        return answerOf(o -> o.judge(key));
    }

    int clear() {
        return answerOf(o -> o.clear());
    }

    int lots(int n, int z, int what) {
        return answerOf(o -> o.lots(n, z, what));
    }

    int image() {
        return answerOf(o -> o.image());
    }

    int on() {
        return answerOf(o -> o.on());
    }

    int count(int what) {
        return answerOf(o -> o.count(what));
    }
}
