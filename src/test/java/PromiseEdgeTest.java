/** The boundaries that the promises name, each sentence with a test of its own; refused calls are in RefusalTest. */
public final class PromiseEdgeTest extends Answers {
    private static void noSketches() {
        QuantileDesk d = new QuantileDesk();
        due(0, d.sketches());
        due(0, d.astray());
        noSuch(() -> d.add(0, 1));
        noSuch(() -> d.run(0, 1, 1, 1));
        noSuch(() -> d.merge(0, 1));
        noSuch(() -> d.rank(0, 1));
        noSuch(() -> d.value(0, 1));
        noSuch(() -> d.bound(0, 1, true));
        noSuch(() -> d.told(0, 1));
        noSuch(() -> d.item(0, 0, 0));
        noSuch(() -> d.clear(0));
        // one object's sketches are not another's
        d.make(ALL, 1, 1);
        due(0, new QuantileDesk().sketches());
    }

    private static void kindsNoughtToTwo() {
        int[] wrong = {LEAST, -1, 3, 4, GREATEST};
        for (int kind : wrong) {
            QuantileDesk d = new QuantileDesk();
            illegal(() -> d.make(kind, 5, 1));
            due(0, d.sketches());
        }
        for (int kind = 0; kind < 3; kind++) {
            QuantileDesk d = new QuantileDesk();
            due(0, d.make(kind, 5, 1));
            tells(d, 0, kind, 5, 0, 0, 0, kind == LEVELS ? 1 : 0, 0);
        }
    }

    private static void sizesOneTo200() {
        int[] wrong = {LEAST, -1, 0, 201, GREATEST};
        for (int kind = 0; kind < 3; kind++) {
            int made = kind;
            for (int k : wrong) {
                QuantileDesk d = new QuantileDesk();
                illegal(() -> d.make(made, k, 1));
                due(0, d.sketches());
            }
            QuantileDesk d = new QuantileDesk();
            due(0, d.make(kind, 1, 1));
            due(1, d.make(kind, 200, 1));
            due(1, d.told(0, 1));
            due(200, d.told(1, 1));
        }
    }

    private static void anySeed() {
        int[] seeds = {LEAST, -1, 0, 1, GREATEST};
        QuantileDesk d = new QuantileDesk();
        for (int i = 0; i < seeds.length; i++) {
            due(i, d.make(LEVELS, 1, seeds[i]));
        }
    }

    private static void sixAndNoMore() {
        for (int kind = 0; kind < 3; kind++) {
            int made = kind;
            QuantileDesk d = new QuantileDesk();
            for (int i = 0; i < 6; i++) {
                due(i, d.make(kind, 200, i));
            }
            full(() -> d.make(made, 200, 1));
            full(() -> d.make((made + 1) % 3, 1, 1));
            d.clear(5);
            full(() -> d.make(made, 200, 1));
            due(6, d.sketches());
        }
    }

    private static void addAnswersTheCount() {
        int[] values = {LEAST, GREATEST, 0, 0, -1};
        for (int kind = 0; kind < 3; kind++) {
            QuantileDesk d = deskOf(kind, 1, 1);
            for (int i = 0; i < values.length; i++) {
                due(i + 1, d.add(0, values[i]));
            }
            due(5, d.told(0, 2));
        }
    }

    private static void addUpTo4000() {
        for (int kind = 0; kind < 3; kind++) {
            QuantileDesk d = deskOf(kind, 9, 1);
            fillTo(d, 0, 3998);
            due(3999, d.add(0, 1));
            due(4000, d.add(0, 1));
            full(() -> d.add(0, 1));
            full(() -> d.add(0, LEAST));
            due(4000, d.told(0, 2));
        }
    }

    private static void runOfOneTo1000() {
        int[] wrong = {LEAST, -1000, -1, 0, 1001, 4001, GREATEST};
        for (int kind = 0; kind < 3; kind++) {
            QuantileDesk d = deskOf(kind, 9, 1);
            for (int n : wrong) {
                illegal(() -> d.run(0, 1, 1, n));
                due(0, d.told(0, 2));
            }
            due(1, d.run(0, 1, 1, 1));
            due(1001, d.run(0, 1, 1, 1000));
            due(2000, d.run(0, 1, 1, 999));
        }
    }

    private static void runUpTo4000() {
        for (int kind = 0; kind < 3; kind++) {
            QuantileDesk d = deskOf(kind, 9, 1);
            fillTo(d, 0, 3001);
            full(() -> d.run(0, 1, 1, 1000));
            due(3001, d.told(0, 2));
            due(4000, d.run(0, 1, 1, 999));
            full(() -> d.run(0, 1, 1, 1));
            full(() -> d.run(0, 1, 1, 1000));
            due(4000, d.told(0, 2));
        }
    }

    private static void runRunsOver() {
        QuantileDesk up = deskOf(ALL, 1, 1);
        up.run(0, GREATEST, 1, 2);
        keeps(up, 0, LEAST, 0, 0, GREATEST, 0, 0);
        QuantileDesk down = deskOf(ALL, 1, 1);
        down.run(0, LEAST + 1, -1, 4);
        keeps(down, 0, LEAST, 0, 0, LEAST + 1, 0, 0, GREATEST - 1, 0, 0, GREATEST, 0, 0);
        QuantileDesk half = deskOf(ALL, 1, 1);
        half.run(0, 5, LEAST, 3);
        keeps(half, 0, LEAST + 5, 0, 0, 5, 0, 0, 5, 0, 0);
        QuantileDesk wide = deskOf(ALL, 1, 1);
        wide.run(0, 0, GREATEST, 4);
        keeps(wide, 0, -2, 0, 0, 0, 0, 0, GREATEST - 2, 0, 0, GREATEST, 0, 0);
        QuantileDesk bounds = deskOf(BOUNDS, 5, 1);
        bounds.run(0, GREATEST, 1, 2);
        keeps(bounds, 0, LEAST, 1, 0, GREATEST, 1, 0);
        QuantileDesk levels = deskOf(LEVELS, 5, 1);
        levels.run(0, GREATEST, 1, 3);
        keeps(levels, 0, GREATEST, 0, 0, LEAST, 0, 0, LEAST + 1, 0, 0);
    }

    private static void runWithStepNought() {
        QuantileDesk d = deskOf(ALL, 1, 1);
        due(3, d.run(0, -7, 0, 3));
        keeps(d, 0, -7, 0, 0, -7, 0, 0, -7, 0, 0);
    }

    private static void runIsItsNumbersOneByOne() {
        int[] firsts = {GREATEST - 3, -40, 40};
        int[] steps = {1, 1 << 30, -1};
        for (int kind = 0; kind < 3; kind++) {
            for (int k = 1; k <= 7; k++) {
                for (int i = 0; i < 3; i++) {
                    QuantileDesk d = deskOf(kind, k, 5);
                    d.make(kind, k, 5);
                    d.run(0, firsts[i], steps[i], 50);
                    int v = firsts[i];
                    for (int n = 0; n < 50; n++) {
                        d.add(1, v);
                        v += steps[i];
                    }
                    dueText(stateOf(d, 0), stateOf(d, 1));
                }
            }
        }
    }

    private static void mergeOfTheSame() {
        for (int kind = 0; kind < 3; kind++) {
            QuantileDesk d = deskOf(kind, 5, 1, 1, 2);
            illegal(() -> d.merge(0, 0));
            due(2, d.told(0, 2));
        }
        // like ones that are not the same
        QuantileDesk twins = deskOf(LEVELS, 5, 1, 1, 2);
        twins.make(LEVELS, 5, 1);
        addAll(twins, 1, 1, 2);
        due(4, twins.merge(0, 1));
    }

    private static void mergeOfOtherKinds() {
        QuantileDesk d = deskOf(ALL, 5, 1);
        d.make(BOUNDS, 5, 1);
        d.make(LEVELS, 5, 1);
        for (int to = 0; to < 3; to++) {
            for (int from = 0; from < 3; from++) {
                int a = to;
                int b = from;
                illegal(() -> d.merge(a, b));
            }
        }
    }

    private static void mergeOfBounds() {
        QuantileDesk d = deskOf(BOUNDS, 5, 1);
        d.make(BOUNDS, 5, 1);
        illegal(() -> d.merge(0, 1));
        d.add(1, 3);
        illegal(() -> d.merge(0, 1));
        illegal(() -> d.merge(1, 0));
    }

    private static void mergeWithAnotherSize() {
        QuantileDesk d = deskOf(LEVELS, 5, 1, 7);
        d.make(LEVELS, 6, 1);
        d.make(LEVELS, 4, 1);
        for (int from = 1; from <= 2; from++) {
            int b = from;
            illegal(() -> d.merge(0, b));
            illegal(() -> d.merge(b, 0));
        }
        // sizes of all are free, and stay
        QuantileDesk all = deskOf(ALL, 1, 1, 7);
        all.make(ALL, 200, 2);
        all.add(1, 8);
        due(2, all.merge(0, 1));
        due(1, all.told(0, 1));
        due(3, all.merge(1, 0));
        due(200, all.told(1, 1));
    }

    private static void mergeUpTo4000() {
        for (int kind = ALL; kind <= LEVELS; kind += 2) {
            QuantileDesk d = deskOf(kind, 9, 1);
            d.make(kind, 9, 2);
            fillTo(d, 0, 2001);
            fillTo(d, 1, 2000);
            full(() -> d.merge(0, 1));
            full(() -> d.merge(1, 0));
            due(2001, d.told(0, 2));
            due(2000, d.told(1, 2));
            d.make(kind, 9, 3);
            fillTo(d, 2, 1999);
            due(4000, d.merge(0, 2));
            due(0, d.astray());
            due(1999, d.told(2, 2));
            full(() -> d.merge(0, 2));
            // nothing comes from an empty one, so 4000 is not above 4000
            d.make(kind, 9, 4);
            due(4000, d.merge(0, 3));
            due(4000, d.merge(3, 0));
            full(() -> d.merge(0, 3));
        }
    }

    private static void mergeWithEmptyOnes() {
        for (int kind = ALL; kind <= LEVELS; kind += 2) {
            QuantileDesk d = deskOf(kind, 3, 0);
            d.make(kind, 3, 0);
            due(0, d.merge(0, 1));
            tells(d, 0, kind, 3, 0, 0, 0, kind / 2, 0);
            addAll(d, 1, 4, 2, 3, 1);
            String had = stateOf(d, 1);
            due(4, d.merge(1, 0));
            dueText(had, stateOf(d, 1));
            due(4, d.merge(0, 1));
            dueText(had, stateOf(d, 1));
        }
        // an empty one gets the levels and OFF, and its own halvings and coin stay
        QuantileDesk d = deskOf(LEVELS, 3, 0, 4, 2, 3, 1);
        d.make(LEVELS, 3, 3);
        d.merge(1, 0);
        keeps(d, 1, 1, 1, 0, 3, 1, 0);
        tells(d, 1, 2, 3, 4, 2, 1, 2, 0);
        // six: the first coin of seed 3 is 1
        addAll(d, 1, 9, 8, 7, 6);
        keeps(d, 1, 1, 1, 0, 3, 1, 0, 7, 1, 0, 9, 1, 0);
        tells(d, 1, 2, 3, 8, 4, 2, 2, 1);
    }

    private static void levelsAreMadeIfThereAreLess() {
        QuantileDesk d = deskOf(LEVELS, 3, 0, 4, 2, 3, 1);
        d.make(LEVELS, 3, 0);
        addAll(d, 1, 20, 10);
        // less into more: no level goes
        due(6, d.merge(0, 1));
        keeps(d, 0, 20, 0, 0, 10, 0, 0, 1, 1, 0, 3, 1, 0);
        keeps(d, 1, 20, 0, 0, 10, 0, 0);
        // more into less: level 1 is made
        d.make(LEVELS, 3, 0);
        d.add(2, 30);
        due(7, d.merge(2, 0));
        keeps(d, 2, 30, 0, 0, 20, 0, 0, 10, 0, 0, 1, 1, 0, 3, 1, 0);
        due(2, d.told(2, 5));
    }

    private static void halvedAsLongAsItMustBe() {
        // level 0 has 4, level 1 has 2, with rooms for five: one halving is enough
        QuantileDesk once = deskOf(LEVELS, 3, 0, 6, 5, 8);
        once.make(LEVELS, 3, 0);
        addAll(once, 1, 4, 2, 3, 1, 7);
        due(8, once.merge(0, 1));
        keeps(once, 0, 1, 1, 0, 3, 1, 0, 5, 1, 0, 7, 1, 0);
        tells(once, 0, 2, 3, 8, 4, 2, 2, 1);
        // level 0: 9, 3, 3; level 1: 7, 1, 1, with rooms for four: 3 goes up, and then 7, 1, 1, 3 are halved
        QuantileDesk twice = deskOf(LEVELS, 1, 0, 1, 2, 3);
        twice.make(LEVELS, 1, 0);
        addAll(twice, 1, 7, 8, 9);
        due(6, twice.merge(1, 0));
        keeps(twice, 1, 9, 0, 0, 3, 0, 0, 7, 1, 0, 1, 1, 0);
        due(9, twice.merge(1, 0));
        keeps(twice, 1, 9, 0, 0, 1, 2, 0, coin(0, 3) == 0 ? 3 : 7, 2, 0);
        tells(twice, 1, 2, 1, 9, 3, 6, 3, 3);
    }

    private static void rankOfEmptyOnes() {
        int[] values = {LEAST, -1, 0, 1, GREATEST};
        for (int kind = 0; kind < 3; kind++) {
            QuantileDesk d = deskOf(kind, 5, 1);
            for (int v : values) {
                due(0, d.rank(0, v));
            }
        }
    }

    private static void rankCountsEquals() {
        int[] values = {LEAST, 5, GREATEST, 5, LEAST};
        for (int kind = 0; kind < 3; kind++) {
            QuantileDesk d = deskOf(kind, 200, 1, values);
            due(2, d.rank(0, LEAST));
            due(2, d.rank(0, 4));
            due(4, d.rank(0, 5));
            due(4, d.rank(0, GREATEST - 1));
            due(5, d.rank(0, GREATEST));
        }
    }

    /** Entries 1, 5, 9, 11, 13, 31 with gaps 1, 2, 3, 2, 2, 2, and slack 1 at the 5: lows 1, 3, 6, 8, 10, 12. */
    private static QuantileDesk sixEntries() {
        return deskOf(BOUNDS, 3, 1, 1, 5, 9, 9, 10, 11, 5, 12, 13, 8, 30, 31);
    }

    private static void rankBelowTheFirst() {
        due(0, sixEntries().rank(0, 0));
        due(0, sixEntries().rank(0, LEAST));
        // what is not below the first entry
        due(2, sixEntries().rank(0, 1));
    }

    private static void rankFromTheLastOn() {
        due(12, sixEntries().rank(0, 31));
        due(12, sixEntries().rank(0, GREATEST));
        due(10, sixEntries().rank(0, 30));
        due(1, deskOf(BOUNDS, 1, 1, 7).rank(0, 7));
        due(0, deskOf(BOUNDS, 1, 1, 7).rank(0, 6));
        due(3, deskOf(BOUNDS, 9, 1, 7, 7, 7).rank(0, 7));
    }

    private static void rankIsHalvedDownward() {
        // low and the high of the next one less 1: 1 and 3, 3 and 5, 6 and 7, 8 and 9, 10 and 11
        int[] values = {1, 4, 5, 8, 9, 10, 11, 12, 13, 30};
        int[] ranks = {2, 2, 4, 4, 6, 6, 8, 8, 10, 10};
        for (int i = 0; i < values.length; i++) {
            due(ranks[i], sixEntries().rank(0, values[i]));
        }
    }

    private static void rankBehindTheLastNotAbove() {
        // 1, 5, 5, 5, 5, 9, 9: the last 5 has low 5, and 9 high 6
        QuantileDesk d = deskOf(BOUNDS, 3, 1, 5, 9, 5, 1, 5, 9, 5);
        due(1, d.rank(0, 1));
        due(5, d.rank(0, 5));
        due(5, d.rank(0, 8));
        due(7, d.rank(0, 9));
    }

    private static void valueFromOneToTheCount() {
        int[] counts = {0, 1, 5, 4000};
        for (int kind = 0; kind < 3; kind++) {
            for (int count : counts) {
                QuantileDesk d = deskOf(kind, 10, 1);
                fillTo(d, 0, count);
                illegal(() -> d.value(0, 0));
                illegal(() -> d.value(0, -1));
                illegal(() -> d.value(0, LEAST));
                illegal(() -> d.value(0, count + 1));
                illegal(() -> d.value(0, GREATEST));
                if (count > 0) {
                    valueAtTheEnds(d, kind, count);
                }
            }
        }
    }

    private static void valueAtTheEnds(QuantileDesk d, int kind, int count) {
        int least = d.item(0, 0, 0);
        int greatest = d.item(0, d.told(0, 3) - 1, 0);
        for (int i = 0; kind == LEVELS && i < d.told(0, 3); i++) {
            least = Math.min(least, d.item(0, i, 0));
            greatest = Math.max(greatest, d.item(0, i, 0));
        }
        due(least, d.value(0, 1));
        due(greatest, d.value(0, count));
    }

    private static void valueIsTheLeastWhoseRankIsNotBelow() {
        QuantileDesk all = deskOf(ALL, 1, 1, GREATEST, 5, LEAST, 5, 9);
        int[] want = {LEAST, 5, 5, 9, GREATEST};
        for (int r = 1; r <= 5; r++) {
            due(want[r - 1], all.value(0, r));
        }
        // 9 weighs 1; 1 and 5 weigh 2
        QuantileDesk levels = deskOf(LEVELS, 4, 0, 9, 1, 5, 7, 3);
        int[] weighed = {1, 1, 5, 5, 9};
        for (int r = 1; r <= 5; r++) {
            due(weighed[r - 1], levels.value(0, r));
        }
        QuantileDesk ends = deskOf(LEVELS, 2, 0, GREATEST, LEAST, 3);
        due(LEAST, ends.value(0, 1));
        due(LEAST, ends.value(0, 2));
        due(GREATEST, ends.value(0, 3));
        due(GREATEST, deskOf(LEVELS, 1, 1, GREATEST).value(0, 1));
        due(LEAST, deskOf(LEVELS, 1, 1, LEAST).value(0, 1));
    }

    private static void valueIsTheFirstOfTheNearest() {
        // highs 1, 4, 6, 8, 10, 12; at 7, 9, 11 two are as near; at 5 the 5 is 2 away by its low, and the 9 is 1
        int[] want = {1, 1, 5, 5, 9, 9, 9, 11, 11, 13, 13, 31};
        for (int r = 1; r <= 12; r++) {
            due(want[r - 1], sixEntries().value(0, r));
        }
        due(7, deskOf(BOUNDS, 1, 1, 7).value(0, 1));
        // the 30 has low 3 and high 5: at 3 it is 2 away by its high, at 4 as near as the 40 with low 5
        QuantileDesk slack = deskOf(BOUNDS, 2, 1, 10, 20, 30, 40, 50, 60, 30);
        keeps(slack, 0, 10, 1, 0, 20, 1, 0, 30, 1, 2, 40, 2, 0, 60, 2, 0);
        due(20, slack.value(0, 3));
        due(30, slack.value(0, 4));
        due(40, slack.value(0, 5));
        // the high of an entry may be that of the last one
        QuantileDesk d = deskOf(BOUNDS, 2, 1, 1, 2, 3, 9, 4);
        keeps(d, 0, 1, 1, 0, 2, 1, 0, 3, 1, 0, 4, 1, 1, 9, 1, 0);
        due(3, d.value(0, 4));
        due(9, d.value(0, 5));
    }

    private static void boundIsAtLeastRankOne() {
        // OFF is 3
        int[] want = {1, 1, 1, 1, 1, 5, 5, 9, 9, 9, 11, 11};
        for (int r = 1; r <= 12; r++) {
            due(want[r - 1], sixEntries().bound(0, r, false));
        }
    }

    private static void boundIsAtMostTheCount() {
        int[] want = {5, 9, 9, 9, 11, 11, 13, 13, 31, 31, 31, 31};
        for (int r = 1; r <= 12; r++) {
            due(want[r - 1], sixEntries().bound(0, r, true));
        }
    }

    private static void boundOfAllIsItsValue() {
        QuantileDesk d = deskOf(ALL, 1, 1, 3, 1, 2);
        for (int r = 1; r <= 3; r++) {
            due(r, d.bound(0, r, false));
            due(r, d.bound(0, r, true));
        }
    }

    private static void boundOfLevels() {
        // OFF is 1; 9 weighs 1; 1 and 5 weigh 2
        QuantileDesk d = deskOf(LEVELS, 4, 0, 9, 1, 5, 7, 3);
        int[] first = {1, 1, 1, 5, 5};
        int[] last = {1, 5, 5, 9, 9};
        for (int r = 1; r <= 5; r++) {
            due(first[r - 1], d.bound(0, r, false));
            due(last[r - 1], d.bound(0, r, true));
        }
        // OFF far above the count
        QuantileDesk far = deskOf(LEVELS, 1, 77);
        fillTo(far, 0, 4000);
        due(1, far.told(0, 4) > 4000 ? 1 : 0);
        for (int r = 1; r <= 4000; r += 1333) {
            due(far.value(0, 1), far.bound(0, r, false));
            due(far.value(0, 4000), far.bound(0, r, true));
        }
    }

    private static void boundOfNoRank() {
        int[] counts = {0, 1, 4000};
        for (int kind = 0; kind < 3; kind++) {
            for (int count : counts) {
                QuantileDesk d = deskOf(kind, 10, 1);
                fillTo(d, 0, count);
                boolean[] sides = {false, true};
                for (boolean last : sides) {
                    // OFF would bring some of them back to 1 .. count
                    illegal(() -> d.bound(0, 0, last));
                    illegal(() -> d.bound(0, -1, last));
                    illegal(() -> d.bound(0, LEAST, last));
                    illegal(() -> d.bound(0, count + 1, last));
                    illegal(() -> d.bound(0, GREATEST, last));
                }
            }
        }
    }

    private static void toldNoughtToSix() {
        int[] wrong = {LEAST, -1, 7, 8, GREATEST};
        for (int kind = 0; kind < 3; kind++) {
            QuantileDesk d = deskOf(kind, 5, 1, 4);
            for (int what : wrong) {
                illegal(() -> d.told(0, what));
            }
            tells(d, 0, kind, 5, 1, 1, kind == BOUNDS ? 1 : 0, kind == LEVELS ? 1 : 0, 0);
        }
    }

    private static void toldOfBoundsThinned() {
        // also where no entry goes
        QuantileDesk d = deskOf(BOUNDS, 1, 1);
        for (int n = 1; n <= 3; n++) {
            d.add(0, n);
            due(n, d.told(0, 6));
        }
        tells(d, 0, 1, 1, 3, 2, 2, 0, 3);
    }

    private static void itemsFromNoughtToTheLast() {
        int[] wrong = {LEAST, -1, 3, 4, GREATEST};
        for (int kind = 0; kind < 3; kind++) {
            for (int what = 0; what < 3; what++) {
                int part = what;
                QuantileDesk empty = deskOf(kind, 5, 1);
                illegal(() -> empty.item(0, 0, part));
                illegal(() -> empty.item(0, -1, part));
                QuantileDesk d = deskOf(kind, 5, 1, 3, 4, 5);
                for (int i : wrong) {
                    illegal(() -> d.item(0, i, part));
                }
                d.clear(0);
                illegal(() -> d.item(0, 0, part));
            }
        }
    }

    private static void itemPartsNoughtToTwo() {
        int[] wrong = {LEAST, -1, 3, GREATEST};
        for (int kind = 0; kind < 3; kind++) {
            QuantileDesk d = deskOf(kind, 5, 1, 3);
            for (int what : wrong) {
                illegal(() -> d.item(0, 0, what));
            }
            keeps(d, 0, 3, kind == BOUNDS ? 1 : 0, 0);
        }
    }

    private static void itemsAtTheEndsOfLevels() {
        // levels 0, 1, 2 with 2, 1, 1; level 0 may be empty
        QuantileDesk d = deskOf(LEVELS, 1, 0, 1, 2, 3, 4, 5, 6);
        due(1, d.item(0, 0, 1));
        due(1, d.item(0, 2, 1));
        addAll(d, 0, 7, 8);
        int[] levels = {0, 0, 1, 2};
        for (int i = 0; i < 4; i++) {
            due(levels[i], d.item(0, i, 1));
            due(0, d.item(0, i, 2));
        }
        illegal(() -> d.item(0, 4, 1));
    }

    private static void clearAnswersTheCount() {
        for (int kind = 0; kind < 3; kind++) {
            QuantileDesk d = deskOf(kind, 5, 1);
            due(0, d.clear(0));
            d.add(0, 3);
            due(1, d.clear(0));
            due(0, d.clear(0));
            fillTo(d, 0, 4000);
            due(4000, d.clear(0));
            tells(d, 0, kind, 5, 0, 0, 0, kind == LEVELS ? 1 : 0, 0);
            due(1, d.add(0, 3));
            fillTo(d, 0, 4000);
            full(() -> d.add(0, 3));
        }
    }

    private static void clearBringsTheSeedBack() {
        int[] seeds = {LEAST, GREATEST, -1, 0, 3, 12345};
        for (int kind = 0; kind < 3; kind++) {
            for (int seed : seeds) {
                QuantileDesk d = deskOf(kind, 3, seed);
                d.make(kind, 3, seed);
                d.run(0, 5, 3, 777);
                d.clear(0);
                dueText(stateOf(d, 1), stateOf(d, 0));
                d.run(0, 900, -1, 200);
                d.run(1, 900, -1, 200);
                dueText(stateOf(d, 1), stateOf(d, 0));
            }
        }
    }

    private static void clearTakesBackWhatWasPutIn() {
        QuantileDesk d = deskOf(LEVELS, 1, 0, 1, 2, 3);
        d.make(LEVELS, 1, 0);
        d.make(LEVELS, 1, 0);
        d.merge(1, 0);
        String other = stateOf(d, 0);
        due(3, d.clear(1));
        dueText(stateOf(d, 2), stateOf(d, 1));
        dueText(other, stateOf(d, 0));
        // and what was put in stays when the one that it came from is cleared
        d.merge(1, 0);
        String put = stateOf(d, 1);
        due(3, d.clear(0));
        dueText(put, stateOf(d, 1));
    }

    private static void sketchesNoughtToSix() {
        QuantileDesk d = new QuantileDesk();
        for (int i = 0; i < 6; i++) {
            due(i, d.sketches());
            illegal(() -> d.make(ALL, 0, 1));
            due(i, d.sketches());
            d.make(i % 3, 1, 1);
        }
        due(6, d.sketches());
        full(() -> d.make(ALL, 1, 1));
        due(6, d.sketches());
        d.clear(3);
        due(6, d.sketches());
    }

    private static void noneAstray() {
        int[] steps = {0, 1, -1, LEAST, 1 << 30, 715827883};
        for (int k = 1; k <= 200; k += 199) {
            QuantileDesk d = new QuantileDesk();
            due(0, d.astray());
            for (int s = 0; s < 6; s++) {
                d.make(s % 3, k, s);
                due(0, d.astray());
            }
            for (int step : steps) {
                for (int s = 0; s < 6; s++) {
                    d.clear(s);
                    d.run(s, GREATEST, step, 1000);
                    d.run(s, LEAST, step, 999);
                }
                due(0, d.astray());
                d.merge(0, 3);
                d.merge(2, 5);
                due(0, d.astray());
            }
        }
    }

    private static void making() {
        edge("1: No sketches", PromiseEdgeTest::noSketches);
        edge("2: the kind is not 0 .. 2", PromiseEdgeTest::kindsNoughtToTwo);
        edge("2: or k not 1 .. 200", PromiseEdgeTest::sizesOneTo200);
        edge("2: a seed is any int", PromiseEdgeTest::anySeed);
        edge("2: UnsupportedOperation: there are 6", PromiseEdgeTest::sixAndNoMore);
        edge("11: the count that it had", PromiseEdgeTest::clearAnswersTheCount);
        edge("11: as it was made, with the same seed", PromiseEdgeTest::clearBringsTheSeedBack);
        edge("11: as it was made, behind a merge", PromiseEdgeTest::clearTakesBackWhatWasPutIn);
        edge("12: How many sketches there are", PromiseEdgeTest::sketchesNoughtToSix);
        edge("13: gaps or weights are not the count, or values fall", PromiseEdgeTest::noneAstray);
    }

    private static void coming() {
        edge("3: A number comes: the count", PromiseEdgeTest::addAnswersTheCount);
        edge("3: UnsupportedOperation: it is 4000", PromiseEdgeTest::addUpTo4000);
        edge("4: n is not 1 .. 1000", PromiseEdgeTest::runOfOneTo1000);
        edge("4: it would be above 4000", PromiseEdgeTest::runUpTo4000);
        edge("4: first, first + step, and so on (running over)", PromiseEdgeTest::runRunsOver);
        edge("4: a step of 0", PromiseEdgeTest::runWithStepNought);
        edge("4: n numbers come", PromiseEdgeTest::runIsItsNumbersOneByOne);
        edge("5: they are the same", PromiseEdgeTest::mergeOfTheSame);
        edge("5: of other kinds", PromiseEdgeTest::mergeOfOtherKinds);
        edge("5: of bounds", PromiseEdgeTest::mergeOfBounds);
        edge("5: or levels with another k", PromiseEdgeTest::mergeWithAnotherSize);
        edge("5: the count would be above 4000", PromiseEdgeTest::mergeUpTo4000);
        edge("5: with empty ones", PromiseEdgeTest::mergeWithEmptyOnes);
        edge("5: made if there are less", PromiseEdgeTest::levelsAreMadeIfThereAreLess);
        edge("5: then it is halved as long as it must be", PromiseEdgeTest::halvedAsLongAsItMustBe);
    }

    private static void asking() {
        edge("6: of empty ones", PromiseEdgeTest::rankOfEmptyOnes);
        edge("6: v or less", PromiseEdgeTest::rankCountsEquals);
        edge("6: 0, if v is below the first entry", PromiseEdgeTest::rankBelowTheFirst);
        edge("6: the count from the last one on", PromiseEdgeTest::rankFromTheLastOn);
        edge("6: half of, downward", PromiseEdgeTest::rankIsHalvedDownward);
        edge("6: the last entry with a value not above v", PromiseEdgeTest::rankBehindTheLastNotAbove);
        edge("7: the rank is not 1 .. count", PromiseEdgeTest::valueFromOneToTheCount);
        edge("7: the least number whose rank is not below it", PromiseEdgeTest::valueIsTheLeastWhoseRankIsNotBelow);
        edge("7: is least, the first of these", PromiseEdgeTest::valueIsTheFirstOfTheNearest);
        edge("8: the rank less OFF, at least 1", PromiseEdgeTest::boundIsAtLeastRankOne);
        edge("8: the rank and OFF, at most the count", PromiseEdgeTest::boundIsAtMostTheCount);
        edge("8: OFF 0", PromiseEdgeTest::boundOfAllIsItsValue);
        edge("8: of levels", PromiseEdgeTest::boundOfLevels);
        edge("8: IllegalArgument: as there", PromiseEdgeTest::boundOfNoRank);
        edge("9: what is none of these", PromiseEdgeTest::toldNoughtToSix);
        edge("9: for bounds how often it was thinned", PromiseEdgeTest::toldOfBoundsThinned);
        edge("10: there is none", PromiseEdgeTest::itemsFromNoughtToTheLast);
        edge("10: or what is none of these", PromiseEdgeTest::itemPartsNoughtToTwo);
        edge("10: level by level", PromiseEdgeTest::itemsAtTheEndsOfLevels);
    }

    public static void main(String[] args) {
        making();
        coming();
        asking();
        Check.end();
    }
}
