/** Each promise with answers worked out by hand from the document. */
public final class PromiseTest extends Answers {
    /** Seed 0 has x = 12345 at its first coin, so its second one is bit 16 of this. */
    private static final int SECOND_COIN = (1103515245 * 12345 + 12345) >>> 16 & 1;

    private static void newObject() {
        sentence = "1: a new object";
        QuantileDesk d = new QuantileDesk();
        due(0, d.sketches());
        due(0, d.astray());
        noSuch(() -> d.add(0, 1));
        noSuch(() -> d.told(0, 0));
    }

    private static void make() {
        sentence = "2: make";
        QuantileDesk d = new QuantileDesk();
        illegal(() -> d.make(-1, 5, 1));
        illegal(() -> d.make(3, 5, 1));
        illegal(() -> d.make(0, 0, 1));
        illegal(() -> d.make(2, 201, 1));
        illegal(() -> d.make(1, LEAST, 1));
        illegal(() -> d.make(GREATEST, 1, 1));
        due(0, d.sketches());
        due(0, d.make(0, 1, LEAST));
        due(1, d.make(1, 200, GREATEST));
        due(2, d.make(2, 1, 0));
        due(3, d.make(2, 200, -1));
        due(4, d.make(0, 200, 3));
        due(5, d.make(1, 1, 3));
        full(() -> d.make(0, 1, 1));
        illegal(() -> d.make(3, 1, 1));
        illegal(() -> d.make(0, 0, 1));
        due(6, d.sketches());
        tells(d, 0, 0, 1, 0, 0, 0, 0, 0);
        tells(d, 1, 1, 200, 0, 0, 0, 0, 0);
        tells(d, 2, 2, 1, 0, 0, 0, 1, 0);
    }

    private static QuantileDesk boundsOfSix() {
        QuantileDesk d = new QuantileDesk();
        d.make(1, 2, 9);
        addAll(d, 0, 5, 3, 4, 4);
        return d;
    }

    private static void add() {
        sentence = "3: add";
        QuantileDesk all = new QuantileDesk();
        all.make(0, 1, 1);
        due(1, all.add(0, 7));
        due(2, all.add(0, LEAST));
        due(3, all.add(0, GREATEST));
        due(4, all.add(0, 7));
        noSuch(() -> all.add(1, 7));
        noSuch(() -> all.add(-1, 7));
        keeps(all, 0, LEAST, 0, 0, 7, 0, 0, 7, 0, 0, GREATEST, 0, 0);

        QuantileDesk bounds = boundsOfSix();
        keeps(bounds, 0, 3, 1, 0, 4, 1, 0, 4, 1, 0, 5, 1, 0);
        // the fifth is inside: 4 / 2 - 1; it stands behind its equals
        due(5, bounds.add(0, 4));
        keeps(bounds, 0, 3, 1, 0, 4, 1, 0, 4, 1, 0, 4, 1, 1, 5, 1, 0);
        // thinned with limit 3: 5 goes, 4 with slack 1 stays, the next 4 stays, the first 4 goes
        due(6, bounds.add(0, 6));
        keeps(bounds, 0, 3, 1, 0, 4, 2, 0, 4, 1, 1, 6, 2, 0);
        // an equal of the first stands behind it: inside, 6 / 2 - 1; one below the first is the first
        due(7, bounds.add(0, 3));
        due(2, bounds.item(0, 1, 2));
        fullAt4000();
    }

    private static void fullAt4000() {
        QuantileDesk d = new QuantileDesk();
        for (int kind = 0; kind < 3; kind++) {
            int s = d.make(kind, 10, 1);
            for (int i = 0; i < 4; i++) {
                d.run(s, i, 3, i == 3 ? 999 : 1000);
            }
            full(() -> d.run(s, 1, 1, 2));
            due(4000, d.add(s, 1));
            full(() -> d.add(s, 1));
            full(() -> d.run(s, 1, 1, 1));
            illegal(() -> d.run(s, 1, 1, 1001));
            due(4000, d.told(s, 2));
        }
    }

    private static void addToLevels() {
        sentence = "3: add to levels";
        QuantileDesk d = new QuantileDesk();
        // seed 0 has the coin 0 first, seed 3 the coin 1
        d.make(2, 2, 0);
        d.make(2, 2, 3);
        addAll(d, 0, 5, 1);
        keeps(d, 0, 5, 0, 0, 1, 0, 0);
        due(3, d.add(0, 3));
        keeps(d, 0, 5, 0, 0, 1, 1, 0);
        tells(d, 0, 2, 2, 3, 2, 1, 2, 1);
        addAll(d, 1, 5, 1, 3);
        keeps(d, 1, 5, 0, 0, 3, 1, 0);

        // rooms 3, then 2 and 3: five are kept, the sixth has level 0 halved
        d.make(2, 3, 0);
        addAll(d, 2, 4, 2, 3, 1);
        keeps(d, 2, 1, 1, 0, 3, 1, 0);
        addAll(d, 2, 9, 8, 7);
        keeps(d, 2, 9, 0, 0, 8, 0, 0, 7, 0, 0, 1, 1, 0, 3, 1, 0);
        int second = SECOND_COIN;
        d.add(2, 6);
        keeps(d, 2, 1, 1, 0, 3, 1, 0, 6 + second, 1, 0, 8 + second, 1, 0);
        tells(d, 2, 2, 3, 8, 4, 2, 2, 2);
    }

    private static void run() {
        sentence = "4: run";
        QuantileDesk d = new QuantileDesk();
        d.make(0, 1, 1);
        due(3, d.run(0, GREATEST - 1, 1, 3));
        keeps(d, 0, LEAST, 0, 0, GREATEST - 1, 0, 0, GREATEST, 0, 0);
        due(5, d.run(0, 4, 0, 2));
        due(6, d.run(0, -9, 5, 1));
        due(-9, d.value(0, 2));
        due(4, d.value(0, 3));
        due(4, d.value(0, 4));
        illegal(() -> d.run(0, 1, 1, 0));
        illegal(() -> d.run(0, 1, 1, -1));
        illegal(() -> d.run(0, 1, 1, 1001));
        illegal(() -> d.run(0, 1, 1, LEAST));
        illegal(() -> d.run(0, 1, 1, GREATEST));
        noSuch(() -> d.run(1, 1, 1, 0));
        noSuch(() -> d.run(-1, 1, 1, 1));
        due(6, d.told(0, 2));
        due(1006, d.run(0, 1, 1, 1000));
        due(2006, d.run(0, 1, 1, 1000));
        due(3006, d.run(0, 1, 1, 1000));
        full(() -> d.run(0, 1, 1, 995));
        due(3006, d.told(0, 2));
        due(4000, d.run(0, 1, 1, 994));

        // a run is the same as its numbers one by one
        QuantileDesk runs = new QuantileDesk();
        for (int kind = 1; kind < 3; kind++) {
            int a = runs.make(kind, 7, 5);
            int b = runs.make(kind, 7, 5);
            runs.run(a, 50, -3, 40);
            for (int i = 0; i < 40; i++) {
                runs.add(b, 50 - 3 * i);
            }
            for (int what = 0; what < 7; what++) {
                due(runs.told(a, what), runs.told(b, what));
            }
        }
    }

    private static void merge() {
        sentence = "5: merge";
        QuantileDesk d = new QuantileDesk();
        d.make(0, 1, 1);
        d.make(0, 9, 2);
        addAll(d, 0, 5, 1);
        addAll(d, 1, 5, 3, 9);
        due(5, d.merge(0, 1));
        keeps(d, 0, 1, 0, 0, 3, 0, 0, 5, 0, 0, 5, 0, 0, 9, 0, 0);
        keeps(d, 1, 3, 0, 0, 5, 0, 0, 9, 0, 0);
        due(1, d.told(0, 1));

        d.make(2, 3, 0);
        d.make(2, 3, 0);
        addAll(d, 2, 4, 2, 3, 1);
        addAll(d, 3, 20, 10);
        // fewer levels into more; the one put in stays as it is
        due(6, d.merge(2, 3));
        keeps(d, 2, 20, 0, 0, 10, 0, 0, 1, 1, 0, 3, 1, 0);
        keeps(d, 3, 20, 0, 0, 10, 0, 0);
        tells(d, 2, 2, 3, 6, 4, 1, 2, 1);
        // more into fewer: level 0 is behind, six in all, so it is halved by its own first coin
        due(8, d.merge(3, 2));
        keeps(d, 3, 1, 1, 0, 3, 1, 0, 10, 1, 0, 20, 1, 0);
        tells(d, 3, 2, 3, 8, 4, 2, 2, 1);
        due(6, d.told(2, 2));
        refusedMerges();
        levelsAreHalvedFromTheLowestFull();
    }

    private static void levelsAreHalvedFromTheLowestFull() {
        QuantileDesk d = new QuantileDesk();
        d.make(2, 3, 0);
        d.make(2, 3, 0);
        addAll(d, 0, 4, 2, 3, 1);
        addAll(d, 1, 40, 20, 30, 10, 5);
        // level 0: 5; level 1: 1, 3, 10, 30: five, as many as the rooms
        due(9, d.merge(0, 1));
        keeps(d, 0, 5, 0, 0, 1, 1, 0, 3, 1, 0, 10, 1, 0, 30, 1, 0);
        // level 0 has its room and no more, so level 1 is halved
        int coin = SECOND_COIN;
        due(10, d.add(0, 6));
        keeps(d, 0, 5, 0, 0, 6, 0, 0, coin == 0 ? 1 : 3, 2, 0, coin == 0 ? 10 : 30, 2, 0);
        tells(d, 0, 2, 3, 10, 4, 4, 3, 2);
    }

    private static void refusedMerges() {
        QuantileDesk d = new QuantileDesk();
        d.make(0, 5, 1);
        d.make(1, 5, 1);
        d.make(1, 5, 1);
        d.make(2, 5, 1);
        d.make(2, 6, 1);
        d.make(0, 5, 1);
        illegal(() -> d.merge(0, 0));
        illegal(() -> d.merge(3, 3));
        illegal(() -> d.merge(0, 1));
        illegal(() -> d.merge(0, 3));
        illegal(() -> d.merge(3, 0));
        illegal(() -> d.merge(1, 2));
        illegal(() -> d.merge(3, 4));
        noSuch(() -> d.merge(0, 6));
        noSuch(() -> d.merge(6, 0));
        noSuch(() -> d.merge(-1, -1));
        due(0, d.merge(0, 5));
        for (int i = 0; i < 4; i++) {
            d.run(0, 1, 1, 1000);
            d.run(4, 1, 1, 1000);
        }
        due(4000, d.merge(0, 5));
        d.add(5, 1);
        d.add(3, 1);
        full(() -> d.merge(0, 5));
        full(() -> d.merge(5, 0));
        illegal(() -> d.merge(4, 3));
        illegal(() -> d.merge(0, 3));
        illegal(() -> d.merge(0, 0));
        due(1, d.told(5, 2));
        d.clear(0);
        d.run(0, 1, 1, 1000);
        due(1001, d.merge(0, 5));
    }

    private static void rank() {
        sentence = "6: rank";
        QuantileDesk d = boundsOfSix();
        addAll(d, 0, 4, 6);
        // lows 1, 3, 4, 6; highs 1, 3, 5, 6; values 3, 4, 4, 6
        due(0, d.rank(0, 2));
        due(1, d.rank(0, 3));
        due(4, d.rank(0, 4));
        due(4, d.rank(0, 5));
        due(6, d.rank(0, 6));
        due(6, d.rank(0, GREATEST));
        due(0, d.rank(0, LEAST));
        d.make(1, 5, 1);
        due(0, d.rank(1, GREATEST));

        d.make(0, 1, 1);
        due(0, d.rank(2, 0));
        addAll(d, 2, 5, LEAST, GREATEST, 5);
        due(1, d.rank(2, LEAST));
        due(1, d.rank(2, 4));
        due(3, d.rank(2, 5));
        due(3, d.rank(2, GREATEST - 1));
        due(4, d.rank(2, GREATEST));

        d.make(2, 2, 0);
        due(0, d.rank(3, 0));
        addAll(d, 3, 5, 1, 3);
        due(0, d.rank(3, 0));
        due(2, d.rank(3, 1));
        due(2, d.rank(3, 4));
        due(3, d.rank(3, 5));
        noSuch(() -> d.rank(4, 1));
        noSuch(() -> d.rank(-1, 1));
    }

    private static void value() {
        sentence = "7: value";
        QuantileDesk d = boundsOfSix();
        addAll(d, 0, 4, 6);
        int[] bounds = {3, 3, 4, 4, 4, 6};
        for (int r = 1; r <= 6; r++) {
            due(bounds[r - 1], d.value(0, r));
        }
        d.make(0, 1, 1);
        illegal(() -> d.value(1, 1));
        addAll(d, 1, 5, LEAST, GREATEST, 5);
        int[] all = {LEAST, 5, 5, GREATEST};
        for (int r = 1; r <= 4; r++) {
            due(all[r - 1], d.value(1, r));
        }
        d.make(2, 2, 0);
        addAll(d, 2, GREATEST, LEAST, 3);
        due(LEAST, d.value(2, 1));
        due(LEAST, d.value(2, 2));
        due(GREATEST, d.value(2, 3));
        int[] counts = {6, 4, 3};
        for (int s = 0; s < 3; s++) {
            int sketch = s;
            illegal(() -> d.value(sketch, 0));
            illegal(() -> d.value(sketch, LEAST));
            illegal(() -> d.value(sketch, counts[sketch] + 1));
            illegal(() -> d.value(sketch, GREATEST));
        }
        noSuch(() -> d.value(3, 0));
        noSuch(() -> d.value(-1, 1));
    }

    private static void bound() {
        sentence = "8: bound";
        QuantileDesk d = boundsOfSix();
        addAll(d, 0, 4, 6);
        // OFF is 2
        int[] low = {3, 3, 3, 3, 4, 4};
        int[] high = {4, 4, 4, 6, 6, 6};
        for (int r = 1; r <= 6; r++) {
            due(low[r - 1], d.bound(0, r, false));
            due(high[r - 1], d.bound(0, r, true));
        }
        d.make(0, 1, 1);
        d.run(1, 1, 1, 9);
        due(4, d.bound(1, 4, false));
        due(4, d.bound(1, 4, true));
        d.make(2, 3, 0);
        illegal(() -> d.bound(2, 1, false));
        // level 0: 9, 8; level 1: 1, 3; OFF 1
        addAll(d, 2, 4, 2, 3, 1, 9, 8);
        due(1, d.bound(2, 3, false));
        due(3, d.bound(2, 3, true));
        due(8, d.bound(2, 4, true));
        due(9, d.bound(2, 6, true));
        due(1, d.bound(2, 1, false));
        for (boolean last : new boolean[] {false, true}) {
            illegal(() -> d.bound(2, 0, last));
            illegal(() -> d.bound(2, 7, last));
            illegal(() -> d.bound(0, GREATEST, last));
            illegal(() -> d.bound(0, LEAST, last));
            noSuch(() -> d.bound(3, 1, last));
            noSuch(() -> d.bound(-1, 0, last));
        }
    }

    private static void told() {
        sentence = "9: told";
        QuantileDesk d = boundsOfSix();
        addAll(d, 0, 4);
        tells(d, 0, 1, 2, 5, 5, 2, 0, 2);
        addAll(d, 0, 6);
        tells(d, 0, 1, 2, 6, 4, 2, 0, 3);
        d.make(0, 77, 1);
        d.run(1, 1, 1, 9);
        tells(d, 1, 0, 77, 9, 9, 0, 0, 0);
        d.make(2, 1, 0);
        // room 2: halved at 3; rooms 2 and 2: at the fifth kept; and so on
        d.run(2, 1, 1, 3);
        tells(d, 2, 2, 1, 3, 2, 1, 2, 1);
        for (int s = 0; s < 3; s++) {
            int sketch = s;
            illegal(() -> d.told(sketch, -1));
            illegal(() -> d.told(sketch, 7));
            illegal(() -> d.told(sketch, LEAST));
            illegal(() -> d.told(sketch, GREATEST));
        }
        noSuch(() -> d.told(3, 7));
        noSuch(() -> d.told(-1, 0));
    }

    private static void item() {
        sentence = "10: item";
        QuantileDesk d = boundsOfSix();
        d.make(0, 1, 1);
        d.make(2, 2, 0);
        illegal(() -> d.item(1, 0, 0));
        illegal(() -> d.item(2, 0, 0));
        addAll(d, 1, 5, 3);
        addAll(d, 2, 5, 1, 3, 8);
        keeps(d, 0, 3, 1, 0, 4, 1, 0, 4, 1, 0, 5, 1, 0);
        keeps(d, 1, 3, 0, 0, 5, 0, 0);
        keeps(d, 2, 5, 0, 0, 8, 0, 0, 1, 1, 0);
        for (int s = 0; s < 3; s++) {
            int sketch = s;
            illegal(() -> d.item(sketch, -1, 0));
            illegal(() -> d.item(sketch, 0, -1));
            illegal(() -> d.item(sketch, 0, 3));
            illegal(() -> d.item(sketch, GREATEST, 1));
            illegal(() -> d.item(sketch, LEAST, 2));
        }
        noSuch(() -> d.item(3, -1, 3));
        noSuch(() -> d.item(-1, 0, 0));
    }

    private static void clear() {
        sentence = "11: clear";
        QuantileDesk d = new QuantileDesk();
        for (int kind = 0; kind < 3; kind++) {
            int s = d.make(kind, 3, 12345);
            due(0, d.clear(s));
            d.run(s, 7, -5, 90);
            int[] told = new int[7];
            int[] first = new int[9];
            for (int i = 0; i < 7; i++) {
                told[i] = d.told(s, i);
            }
            for (int i = 0; i < 9; i++) {
                first[i] = d.item(s, i / 3, i % 3);
            }
            due(90, d.clear(s));
            tells(d, s, kind, 3, 0, 0, 0, kind == 2 ? 1 : 0, 0);
            due(0, d.rank(s, GREATEST));
            illegal(() -> d.item(s, 0, 0));
            due(90, d.run(s, 7, -5, 90));
            tells(d, s, told);
            for (int i = 0; i < 9; i++) {
                due(first[i], d.item(s, i / 3, i % 3));
            }
        }
        due(3, d.sketches());
        noSuch(() -> d.clear(3));
        noSuch(() -> d.clear(-1));
    }

    private static void sketches() {
        sentence = "12: sketches";
        QuantileDesk d = new QuantileDesk();
        for (int i = 0; i < 6; i++) {
            due(i, d.sketches());
            d.make(i % 3, 4, i);
        }
        due(6, d.sketches());
        full(() -> d.make(0, 4, 1));
        d.clear(0);
        due(6, d.sketches());
        due(0, new QuantileDesk().sketches());
    }

    private static void astray() {
        sentence = "13: astray";
        QuantileDesk d = new QuantileDesk();
        due(0, d.astray());
        for (int s = 0; s < 6; s++) {
            d.make(s % 3, 5, s);
            due(0, d.astray());
        }
        for (int s = 0; s < 6; s++) {
            d.run(s, 900, -7, 300);
            due(0, d.astray());
            d.run(s, LEAST, GREATEST / 50, 500);
            due(0, d.astray());
        }
        d.merge(0, 3);
        d.merge(2, 5);
        due(0, d.astray());
        d.clear(2);
        d.merge(2, 5);
        due(0, d.astray());
    }

    public static void main(String[] args) {
        newObject();
        make();
        add();
        addToLevels();
        run();
        merge();
        rank();
        value();
        bound();
        told();
        item();
        clear();
        sketches();
        astray();
        Check.end();
    }
}
