import java.util.function.IntSupplier;

/** Runs of calls, the same ones every time, on the program and on the model: each answer must be the same. */
public final class ModelTest {
    private static final int RUNS = 1500;
    private static final int CALLS = 512;
    private static final int[] SIZES = {1, 1, 2, 3, 4, 5, 7, 10, 13, 20, 33, 50, 100, 199, 200};
    private static final int[] EDGES = {Integer.MIN_VALUE, Integer.MAX_VALUE, -1, 0, 1, Integer.MIN_VALUE + 1};

    private long state;
    private final int run;
    private final int spread;
    private final int longest;
    private final int merges;
    private final QuantileDesk desk = new QuantileDesk();
    private final Model model = new Model();

    private ModelTest(int run) {
        this.run = run;
        state = run * 7919L + 17;
        spread = new int[] {3, 20, 1000, 100000, 0}[below(5)];
        longest = new int[] {3, 30, 300, 1000}[below(4)];
        merges = new int[] {0, 5, 20}[below(3)];
    }

    private int below(int n) {
        state = state * 6364136223846793005L + 1442695040888963407L;
        return (int) Long.remainderUnsigned(state >>> 33, n);
    }

    private int anyInt() {
        return below(1 << 16) << 16 | below(1 << 16);
    }

    private int number() {
        if (below(40) == 0) {
            return EDGES[below(EDGES.length)];
        }
        return spread == 0 ? anyInt() : below(2 * spread) - spread;
    }

    private int sketch() {
        return below(60) == 0 ? below(10) - 2 : below(Math.max(1, model.sketches()));
    }

    private int countOf(int s) {
        return s >= 0 && s < model.sketches() ? model.told(s, 2) : 3;
    }

    private int keptOf(int s) {
        return s >= 0 && s < model.sketches() ? model.told(s, 3) : 3;
    }

    private void same(String call, IntSupplier want, IntSupplier got) {
        Check.dueText("run " + run + ": " + call, Check.answer(want), Check.answer(got));
    }

    private void make(boolean wild) {
        int kind = wild ? below(6) - 1 : below(3);
        int k = wild ? below(210) - 3 : SIZES[below(SIZES.length)];
        if (merges > 0 && !wild) {
            kind = below(8) == 0 ? 1 : (run & 1) * 2;
            k = below(6) == 0 ? k : SIZES[run % SIZES.length];
        }
        int seed = below(3) == 0 ? EDGES[below(EDGES.length)] : anyInt();
        int kindMade = kind;
        int kMade = k;
        same("make(" + kind + ", " + k + ", " + seed + ")",
                () -> model.make(kindMade, kMade, seed), () -> desk.make(kindMade, kMade, seed));
    }

    private void come() {
        int s = sketch();
        if (below(3) == 0) {
            int v = number();
            same("add(" + s + ", " + v + ")", () -> model.add(s, v), () -> desk.add(s, v));
            return;
        }
        int first = number();
        int step = below(4) == 0 ? anyInt() : below(15) - 7;
        int n = below(30) == 0 ? below(3) * 501 - 1 : 1 + below(longest);
        same("run(" + s + ", " + first + ", " + step + ", " + n + ")",
                () -> model.run(s, first, step, n), () -> desk.run(s, first, step, n));
    }

    private void mergeOrClear() {
        int s = sketch();
        int t = sketch();
        if (below(12) == 0) {
            same("clear(" + s + ")", () -> model.clear(s), () -> desk.clear(s));
        } else {
            same("merge(" + s + ", " + t + ")", () -> model.merge(s, t), () -> desk.merge(s, t));
        }
    }

    private void ask() {
        int s = sketch();
        int v = number();
        int rank = below(20) == 0 ? anyInt() : below(countOf(s) + 2);
        boolean last = below(2) == 0;
        int what = below(9) - 1;
        int i = below(20) == 0 ? anyInt() : below(keptOf(s) + 2) - 1;
        int part = below(30) == 0 ? below(6) - 2 : below(3);
        switch (below(10)) {
            case 0, 1 -> same("rank(" + s + ", " + v + ")", () -> model.rank(s, v), () -> desk.rank(s, v));
            case 2 -> same("value(" + s + ", " + rank + ")", () -> model.value(s, rank), () -> desk.value(s, rank));
            case 3 -> same("bound(" + s + ", " + rank + ", " + last + ")",
                    () -> model.bound(s, rank, last), () -> desk.bound(s, rank, last));
            case 4, 5 -> same("told(" + s + ", " + what + ")", () -> model.told(s, what), () -> desk.told(s, what));
            case 6 -> same("sketches()", model::sketches, desk::sketches);
            case 7 -> same("astray()", model::astray, desk::astray);
            default -> same("item(" + s + ", " + i + ", " + part + ")",
                    () -> model.item(s, i, part), () -> desk.item(s, i, part));
        }
    }

    private void go() {
        int first = 1 + below(6);
        for (int i = 0; i < first; i++) {
            make(false);
        }
        for (int call = first; call < CALLS && Check.clean(); call++) {
            int dice = below(100);
            if (dice < 2) {
                make(true);
            } else if (dice < 22) {
                come();
            } else if (dice < 24 + merges) {
                mergeOrClear();
            } else {
                ask();
            }
        }
    }

    public static void main(String[] args) {
        for (int run = 0; run < RUNS && Check.clean(); run++) {
            new ModelTest(run).go();
        }
        Check.end();
    }
}
