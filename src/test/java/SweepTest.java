import java.util.function.IntSupplier;

/**
 * Every size k, by the program and by the model: all that is kept, told, ranked and valued must be the same. It makes
 * more than the 512 calls of the document on an object, which the class does not count.
 */
public final class SweepTest {
    private static final int[] FIRSTS = {0, Integer.MAX_VALUE - 900, Integer.MIN_VALUE, 17};
    private static final int[] STEPS = {1, -3, 1640531527, 0};
    private static final int MOST = 4000;

    private final int kind;
    private final int k;
    private final int seed;
    private final QuantileDesk desk = new QuantileDesk();
    private final Model model = new Model();

    private SweepTest(int kind, int k) {
        this.kind = kind;
        this.k = k;
        seed = k * 40503 - 1;
    }

    private void same(String call, IntSupplier want, IntSupplier got) {
        Check.dueText("kind " + kind + ", k " + k + ": " + call, Check.answer(want), Check.answer(got));
    }

    private void make(int seedOfIt) {
        same("make", () -> model.make(kind, k, seedOfIt), () -> desk.make(kind, k, seedOfIt));
    }

    private void run(int s, int first, int step, int n) {
        same("run(" + s + ")", () -> model.run(s, first, step, n), () -> desk.run(s, first, step, n));
    }

    /** The same state of one sketch: what it tells and keeps, and some ranks and values of it. */
    private void compare(int s) {
        for (int what = 0; what < 7; what++) {
            int part = what;
            same("told " + what, () -> model.told(s, part), () -> desk.told(s, part));
        }
        int kept = model.told(s, 3);
        for (int i = 0; i < kept; i += i < 300 ? 1 : 17) {
            int at = i;
            for (int what = 0; what < 3; what++) {
                int part = what;
                same("item " + i, () -> model.item(s, at, part), () -> desk.item(s, at, part));
            }
        }
        int count = model.told(s, 2);
        for (int rank = 1; rank <= count; rank += 1 + count / 9) {
            int r = rank;
            same("value " + r, () -> model.value(s, r), () -> desk.value(s, r));
            same("bound " + r, () -> model.bound(s, r, false), () -> desk.bound(s, r, false));
            same("last bound " + r, () -> model.bound(s, r, true), () -> desk.bound(s, r, true));
            int v = model.value(s, r);
            same("rank of " + v, () -> model.rank(s, v), () -> desk.rank(s, v));
            same("rank below " + v, () -> model.rank(s, v - 1), () -> desk.rank(s, v - 1));
        }
    }

    /** Four runs of different rows up to the highest count, looked at behind each. */
    private void fill() {
        make(seed);
        for (int i = 0; i < FIRSTS.length; i++) {
            run(0, FIRSTS[(i + k) % 4], STEPS[(i + k / 2) % 4], MOST / 4);
            compare(0);
        }
    }

    /** Sketches of unlike heights are put together, both ways, and go on with their own coins. */
    private void merge() {
        make(seed + 1);
        make(seed + 2);
        run(1, 5, 3, 700 + k);
        run(2, 2, 7, k + 2);
        mergeInto(1, 2);
        mergeInto(2, 1);
        run(1, -50, 1, 400);
        run(2, -50, 1, 400);
        compare(1);
        compare(2);
        mergeInto(1, 2);
    }

    private void mergeInto(int to, int from) {
        same("merge", () -> model.merge(to, from), () -> desk.merge(to, from));
        compare(to);
        compare(from);
    }

    public static void main(String[] args) {
        for (int k = 1; k <= 200 && Check.clean(); k++) {
            // all numbers are kept alike for every k
            for (int kind = k % 66 == 1 ? 0 : 1; kind < 3; kind++) {
                SweepTest sweep = new SweepTest(kind, k);
                sweep.fill();
                if (kind != 1) {
                    sweep.merge();
                }
                Check.due("kind " + kind + ", k " + k + ": astray", 0, sweep.desk.astray());
            }
        }
        Check.end();
    }
}
