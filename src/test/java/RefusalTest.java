/** Refused calls: what they throw, which refusal comes first, and that they change nothing. */
public final class RefusalTest extends Answers {
    private static final int[] NO_SKETCHES = {LEAST, -2, -1, 6, 7, GREATEST};
    private static final int[] NO_RANKS = {LEAST, -1, 0, GREATEST};
    private static final int EMPTY = 5;

    /** Six sketches: all (full), bounds, levels, all, levels of the same k (nearly full), and empty levels of another k. */
    private static QuantileDesk sixSketches() {
        QuantileDesk d = new QuantileDesk();
        d.make(ALL, 5, 1);
        d.make(BOUNDS, 5, 2);
        d.make(LEVELS, 5, 3);
        d.make(ALL, 7, 4);
        d.make(LEVELS, 5, 6);
        d.make(LEVELS, 7, 6);
        fillTo(d, 0, 4000);
        d.run(1, 9, 1 << 29, 333);
        d.run(2, 9, 1 << 29, 333);
        d.run(3, -4, 3, 17);
        fillTo(d, 4, 3990);
        return d;
    }

    /** Puts refused calls to a desk; nothing may change, and what comes later goes on as if they had not been. */
    private static void changesNothing(RefusedCalls calls) {
        QuantileDesk d = sixSketches();
        String before = state(d);
        calls.putTo(d);
        dueText(before, state(d));
        QuantileDesk twin = sixSketches();
        goOn(d);
        goOn(twin);
        dueText(state(twin), state(d));
    }

    private static void goOn(QuantileDesk d) {
        d.run(1, 77, -1 << 27, 400);
        d.run(2, 77, -1 << 27, 400);
        d.run(3, 5, 5, 5);
        d.run(4, 5, 5, 10);
        d.run(EMPTY, 5, 5, 500);
    }

    private interface RefusedCalls {
        void putTo(QuantileDesk d);
    }

    private static void make(QuantileDesk d) {
        int[] kinds = {LEAST, -1, 3, GREATEST};
        int[] sizes = {LEAST, -1, 0, 201, GREATEST};
        // there are 6 as well, but the arguments are named first
        for (int kind : kinds) {
            illegal(() -> d.make(kind, 5, 1));
            illegal(() -> d.make(kind, 0, 1));
        }
        for (int k : sizes) {
            illegal(() -> d.make(LEVELS, k, 1));
        }
        for (int kind = 0; kind < 3; kind++) {
            int fit = kind;
            full(() -> d.make(fit, 1, 1));
            full(() -> d.make(fit, 200, 1));
        }
    }

    private static void add(QuantileDesk d) {
        for (int s : NO_SKETCHES) {
            noSuch(() -> d.add(s, 1));
        }
        full(() -> d.add(0, 1));
        full(() -> d.add(0, GREATEST));
    }

    private static void run(QuantileDesk d) {
        for (int s : NO_SKETCHES) {
            noSuch(() -> d.run(s, 1, 1, 1));
            noSuch(() -> d.run(s, 1, 1, 0));
            noSuch(() -> d.run(s, 1, 1, GREATEST));
        }
        int[] lengths = {LEAST, -1, 0, 1001, GREATEST};
        for (int s = 0; s < 6; s++) {
            int sketch = s;
            for (int n : lengths) {
                // of 0 and 4 the count would be above 4000 too
                illegal(() -> d.run(sketch, 1, 1, n));
            }
        }
        full(() -> d.run(0, 1, 1, 1));
        full(() -> d.run(0, 1, 1, 1000));
        // none of the eleven comes
        full(() -> d.run(4, 1, 1, 11));
        full(() -> d.run(4, 1, 1, 1000));
    }

    private static void merge(QuantileDesk d) {
        for (int s : NO_SKETCHES) {
            noSuch(() -> d.merge(s, s));
            for (int fit = 0; fit < 6; fit++) {
                int other = fit;
                noSuch(() -> d.merge(other, s));
                noSuch(() -> d.merge(s, other));
            }
        }
        int[][] unfit = {
            {0, 0}, {1, 1}, {2, 2}, {4, 4}, {EMPTY, EMPTY}, {0, 1}, {1, 0}, {0, 2}, {2, 0}, {1, 2}, {2, 1}, {0, 4},
            {4, 0}, {3, EMPTY}, {EMPTY, 3}, {2, EMPTY}, {EMPTY, 2}, {4, EMPTY}, {EMPTY, 4},
        };
        for (int[] pair : unfit) {
            illegal(() -> d.merge(pair[0], pair[1]));
        }
        full(() -> d.merge(0, 3));
        full(() -> d.merge(3, 0));
        full(() -> d.merge(2, 4));
        full(() -> d.merge(4, 2));
    }

    private static void rank(QuantileDesk d) {
        for (int s : NO_SKETCHES) {
            noSuch(() -> d.rank(s, 1));
        }
    }

    private static void valueAndBound(QuantileDesk d) {
        int[] ranks = {LEAST, -1, 0, 1, 4000, 4001, GREATEST};
        for (int s : NO_SKETCHES) {
            for (int r : ranks) {
                noSuch(() -> d.value(s, r));
                noSuch(() -> d.bound(s, r, false));
                noSuch(() -> d.bound(s, r, true));
            }
        }
        for (int s = 0; s < 6; s++) {
            int sketch = s;
            int above = d.told(s, 2) + 1;
            for (int r : NO_RANKS) {
                illegal(() -> d.value(sketch, r));
                illegal(() -> d.bound(sketch, r, false));
                illegal(() -> d.bound(sketch, r, true));
            }
            illegal(() -> d.value(sketch, above));
            illegal(() -> d.bound(sketch, above, false));
            illegal(() -> d.bound(sketch, above, true));
        }
    }

    private static void toldAndItem(QuantileDesk d) {
        int[] noParts = {LEAST, -1, 7, GREATEST};
        for (int s : NO_SKETCHES) {
            noSuch(() -> d.told(s, 0));
            noSuch(() -> d.told(s, 7));
            noSuch(() -> d.item(s, 0, 0));
            noSuch(() -> d.item(s, -1, 3));
        }
        for (int s = 0; s < 6; s++) {
            int sketch = s;
            int kept = d.told(s, 3);
            for (int what : noParts) {
                illegal(() -> d.told(sketch, what));
                illegal(() -> d.item(sketch, 0, what));
                illegal(() -> d.item(sketch, kept, what));
            }
            for (int what = 0; what < 4; what++) {
                int part = what;
                illegal(() -> d.item(sketch, -1, part));
                illegal(() -> d.item(sketch, LEAST, part));
                illegal(() -> d.item(sketch, kept, part));
                illegal(() -> d.item(sketch, GREATEST, part));
            }
            illegal(() -> d.item(sketch, 0, 3));
        }
    }

    private static void clear(QuantileDesk d) {
        for (int s : NO_SKETCHES) {
            noSuch(() -> d.clear(s));
        }
    }

    /** There is no sketch 3 where there are three. */
    private static void justBehindTheLast() {
        QuantileDesk d = new QuantileDesk();
        for (int made = 0; made <= 6; made++) {
            int next = made;
            noSuch(() -> d.add(next, 1));
            noSuch(() -> d.run(next, 1, 1, 1));
            noSuch(() -> d.merge(next, next));
            noSuch(() -> d.rank(next, 1));
            noSuch(() -> d.value(next, 1));
            noSuch(() -> d.bound(next, 1, true));
            noSuch(() -> d.told(next, 0));
            noSuch(() -> d.item(next, 0, 0));
            noSuch(() -> d.clear(next));
            if (made < 6) {
                due(made, d.make(made % 3, 5, 1));
                due(1, d.add(made, 7));
                due(1, d.rank(made, 7));
            }
        }
    }

    /** Asking changes nothing either. */
    private static void asking(QuantileDesk d) {
        for (int s = 0; s < EMPTY; s++) {
            d.rank(s, 100);
            d.value(s, 3);
            d.bound(s, 3, false);
            d.bound(s, 3, true);
        }
        d.rank(EMPTY, 100);
    }

    public static void main(String[] args) {
        edge("refused: there is no such sketch", RefusalTest::justBehindTheLast);
        edge("refused: make", () -> changesNothing(RefusalTest::make));
        edge("refused: add", () -> changesNothing(RefusalTest::add));
        edge("refused: run", () -> changesNothing(RefusalTest::run));
        edge("refused: merge", () -> changesNothing(RefusalTest::merge));
        edge("refused: rank", () -> changesNothing(RefusalTest::rank));
        edge("refused: value and bound", () -> changesNothing(RefusalTest::valueAndBound));
        edge("refused: told and item", () -> changesNothing(RefusalTest::toldAndItem));
        edge("refused: clear", () -> changesNothing(RefusalTest::clear));
        edge("asked: rank, value, bound", () -> changesNothing(RefusalTest::asking));
        Check.end();
    }
}
