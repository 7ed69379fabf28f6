/** The boundaries that the Terms of the document name, each sentence with a test of its own. */
public final class TermsEdgeTest extends Answers {
    private static void sixNumbersFromNought() {
        QuantileDesk d = new QuantileDesk();
        for (int i = 0; i < 6; i++) {
            due(i, d.make(i % 3, 5, 1));
        }
        full(() -> d.make(ALL, 5, 1));
        for (int i = 0; i < 6; i++) {
            due(i % 3, d.told(i, 0));
        }
        noSuch(() -> d.told(6, 0));
    }

    private static void countEndsAt4000() {
        int[] sizes = {1, 3, 200};
        for (int kind = 0; kind < 3; kind++) {
            for (int k : sizes) {
                QuantileDesk d = deskOf(kind, k, 77);
                fillTo(d, 0, 3999);
                due(4000, d.add(0, LEAST));
                due(4000, d.told(0, 2));
                full(() -> d.add(0, LEAST));
                due(0, d.astray());
            }
        }
    }

    private static void comparedAsInts() {
        int[] values = {GREATEST, 0, LEAST, -1, 1, LEAST + 1, GREATEST - 1};
        QuantileDesk all = deskOf(ALL, 1, 1, values);
        keeps(all, 0, LEAST, 0, 0, LEAST + 1, 0, 0, -1, 0, 0, 0, 0, 0, 1, 0, 0, GREATEST - 1, 0, 0, GREATEST, 0, 0);
        QuantileDesk bounds = deskOf(BOUNDS, 200, 1, values);
        keeps(bounds, 0, LEAST, 1, 0, LEAST + 1, 1, 0, -1, 1, 0, 0, 1, 0, 1, 1, 0, GREATEST - 1, 1, 0, GREATEST, 1, 0);
        int[] sorted = {LEAST, LEAST + 1, -1, 0, 1, GREATEST - 1, GREATEST};
        for (int i = 0; i < sorted.length; i++) {
            due(sorted[i], all.value(0, i + 1));
            due(i + 1, all.rank(0, sorted[i]));
            due(i + 1, bounds.rank(0, sorted[i]));
        }
        due(5, all.rank(0, GREATEST - 2));
        due(2, bounds.rank(0, -2));
        // seed 0 has the coin 0 first: of LEAST, 0, GREATEST the first goes up and the last stays
        QuantileDesk levels = deskOf(LEVELS, 2, 0, GREATEST, LEAST, 0);
        keeps(levels, 0, GREATEST, 0, 0, LEAST, 1, 0);
        due(2, levels.rank(0, LEAST));
        due(2, levels.rank(0, GREATEST - 1));
        due(3, levels.rank(0, GREATEST));
        due(LEAST, levels.value(0, 2));
        due(GREATEST, levels.value(0, 3));
    }

    private static void noValueFalls() {
        int[] steps = {1, -1, 0, 1 << 30, 715827883, LEAST};
        for (int step : steps) {
            for (int k = 1; k <= 200; k += 199) {
                QuantileDesk d = deskOf(BOUNDS, k, 1);
                d.run(0, 5, step, 399);
                for (int i = 1; i < d.told(0, 3); i++) {
                    due(1, d.item(0, i - 1, 0) <= d.item(0, i, 0) ? 1 : 0);
                }
                due(0, d.astray());
            }
        }
    }

    /** With k = 3 nothing goes before the ninth; the seventh and the eighth have slack 1, if they stand inside. */
    private static QuantileDesk sixInBounds() {
        return deskOf(BOUNDS, 3, 1, 5, 9, 5, 1, 5, 9);
    }

    private static void beforeTheFirstAbove() {
        QuantileDesk equal = sixInBounds();
        equal.add(0, 5);
        keeps(equal, 0, 1, 1, 0, 5, 1, 0, 5, 1, 0, 5, 1, 0, 5, 1, 1, 9, 1, 0, 9, 1, 0);
        QuantileDesk between = sixInBounds();
        between.add(0, 8);
        keeps(between, 0, 1, 1, 0, 5, 1, 0, 5, 1, 0, 5, 1, 0, 8, 1, 1, 9, 1, 0, 9, 1, 0);
        QuantileDesk likeTheFirst = sixInBounds();
        likeTheFirst.add(0, 1);
        keeps(likeTheFirst, 0, 1, 1, 0, 1, 1, 1, 5, 1, 0, 5, 1, 0, 5, 1, 0, 9, 1, 0, 9, 1, 0);
    }

    private static void noSlackAtTheEnds() {
        int[] ends = {0, 9, 10};
        for (int v : ends) {
            QuantileDesk d = sixInBounds();
            d.add(0, v);
            due(7, d.told(0, 3));
            for (int i = 0; i < 7; i++) {
                due(0, d.item(0, i, 2));
            }
            due(v, d.item(0, v == 0 ? 0 : 6, 0));
        }
        QuantileDesk one = deskOf(BOUNDS, 1, 1, 5);
        keeps(one, 0, 5, 1, 0);
    }

    private static void slackOfTheNth() {
        // the n-th number stands inside; none of these rows is thinned before it has been asked
        int[][] sizesCountsSlacks = {
            {200, 3, 0}, {200, 200, 0}, {200, 201, 0}, {200, 399, 0}, {200, 400, 0}, {200, 401, 1},
            {3, 3, 0}, {3, 4, 0}, {3, 6, 0}, {3, 7, 1}, {3, 8, 1}, {2, 4, 0}, {2, 5, 1}, {4, 8, 0}, {4, 9, 1},
        };
        for (int[] c : sizesCountsSlacks) {
            QuantileDesk d = deskOf(BOUNDS, c[0], 1);
            d.run(0, 10, 10, c[1] - 1);
            d.add(0, 11);
            due(11, d.item(0, 1, 0));
            due(1, d.item(0, 1, 1));
            due(c[2], d.item(0, 1, 2));
        }
    }

    private static void thinnedBehindEachKth() {
        int[] sizes = {1, 2, 4, 199, 200};
        for (int k : sizes) {
            QuantileDesk d = deskOf(BOUNDS, k, 1);
            for (int n = 1; n <= 2 * k + 1; n++) {
                d.add(0, n);
                due(n / k, d.told(0, 6));
            }
        }
        // the third number is there already when it is thinned behind it: 1, 2, 3 with limit 3
        keeps(deskOf(BOUNDS, 1, 1, 1, 2, 3), 0, 1, 1, 0, 3, 2, 0);
        // eight have no k-th number with limit 3, and nine have one
        due(8, deskOf(BOUNDS, 3, 1, 1, 2, 3, 4, 5, 6, 7, 8).told(0, 3));
        due(5, deskOf(BOUNDS, 3, 1, 1, 2, 3, 4, 5, 6, 7, 8, 9).told(0, 3));
    }

    private static void theFirstAndTheLastStay() {
        keeps(deskOf(BOUNDS, 1, 1, 7), 0, 7, 1, 0);
        keeps(deskOf(BOUNDS, 1, 1, 7, 6), 0, 6, 1, 0, 7, 1, 0);
        keeps(deskOf(BOUNDS, 1, 1, 7, 6, 5), 0, 5, 1, 0, 7, 2, 0);
        QuantileDesk d = deskOf(BOUNDS, 1, 1);
        d.run(0, 10, -1, 10);
        keeps(d, 0, 1, 1, 0, 10, 9, 0);
        // with limit 3 the 5 and the 3 go; 1 and 2 together are below it, but 1 is the first
        keeps(deskOf(BOUNDS, 2, 1, 1, 2, 3, 4, 5, 6), 0, 1, 1, 0, 2, 1, 0, 4, 2, 0, 6, 2, 0);
    }

    private static void togetherBelowTheLimit() {
        // limit 2: two gaps of 1 are not below it
        keeps(deskOf(BOUNDS, 2, 1, 1, 2, 3, 4), 0, 1, 1, 0, 2, 1, 0, 3, 1, 0, 4, 1, 0);
        // limit 3: the next one's slack counts, so the 5 before the one with slack 1 stays
        QuantileDesk d = sixInBounds();
        addAll(d, 0, 5, 10, 11);
        keeps(d, 0, 1, 1, 0, 5, 1, 0, 5, 2, 0, 5, 1, 1, 9, 2, 0, 11, 2, 0);
        // its own slack does not: the 5 with slack 1 goes
        QuantileDesk own = deskOf(BOUNDS, 3, 1, 5, 9, 5, 1, 5, 4, 5, 0, -1);
        keeps(own, 0, -1, 1, 0, 1, 2, 0, 5, 2, 0, 5, 2, 0, 9, 2, 0);
    }

    /** Behind the ninth: 1, 5, 5 with slack 1, and 9, 11, 13 with gap 2; the tenth, 8, has slack 2. */
    private static QuantileDesk twelveInBounds() {
        return deskOf(BOUNDS, 3, 1, 1, 5, 9, 9, 10, 11, 5, 12, 13, 8, 30, 31);
    }

    private static void gapsAreAdded() {
        // limit 4: 30 goes to 31, 8 to 9, and 5 to the 5 that keeps its slack
        keeps(twelveInBounds(), 0, 1, 1, 0, 5, 2, 1, 9, 3, 0, 11, 2, 0, 13, 2, 0, 31, 2, 0);
        // a gap that has grown counts at once: 20 goes to 22 with gap 2, and 11 stays
        QuantileDesk d = sixInBounds();
        addAll(d, 0, 5, 10, 11, 20, 21, 22);
        keeps(d, 0, 1, 1, 0, 5, 3, 0, 9, 3, 0, 11, 2, 0, 22, 3, 0);
    }

    private static void oneLevelAtFirst() {
        tells(deskOf(LEVELS, 1, 1), 0, 2, 1, 0, 0, 0, 1, 0);
        tells(deskOf(LEVELS, 200, 1), 0, 2, 200, 0, 0, 0, 1, 0);
        tells(deskOf(LEVELS, 1, 1, 8, 7), 0, 2, 1, 2, 2, 0, 1, 0);
    }

    private static void comesBehindLevelNought() {
        keeps(deskOf(LEVELS, 4, 0, 9, 3, 9, 1), 0, 9, 0, 0, 3, 0, 0, 9, 0, 0, 1, 0, 0);
        // 9, 8, 7 behind the halving of 4, 2, 3, 1 by the coin 0
        keeps(deskOf(LEVELS, 3, 0, 4, 2, 3, 1, 9, 8, 7), 0, 9, 0, 0, 8, 0, 0, 7, 0, 0, 1, 1, 0, 3, 1, 0);
    }

    private static void roomIsAtLeastTwo() {
        // k = 1 and k = 2 have room 2 on each level
        for (int k = 1; k <= 2; k++) {
            QuantileDesk d = deskOf(LEVELS, k, 0);
            int[] kept = {1, 2, 2, 3, 4, 3, 4, 4, 5, 6};
            int[] height = {1, 1, 2, 2, 2, 2, 2, 3, 3, 3};
            for (int i = 0; i < kept.length; i++) {
                d.add(0, i);
                due(kept[i], d.told(0, 3));
                due(height[i], d.told(0, 5));
            }
        }
    }

    /** A size, and the counts at which it is halved: k = 5 has room 5, then 3 + 5; k = 7 has 7, 4 + 7, 3 + 4 + 7. */
    private static void roomIsTakenDownward() {
        int[][] sizesAndCounts = {{3, 4, 8}, {4, 5, 9}, {5, 6, 12}, {7, 8, 16, 20, 27}, {10, 11, 22}, {200, 201, 434}};
        for (int[] c : sizesAndCounts) {
            QuantileDesk d = deskOf(LEVELS, c[0], 5);
            int times = 0;
            for (int n = 1; n <= c[c.length - 1]; n++) {
                d.add(0, n);
                if (n == c[times + 1]) {
                    times++;
                }
                due(times, d.told(0, 6));
            }
        }
    }

    private static void onlyWhileAllHaveMoreThanAllRooms() {
        // five kept, four rooms: level 0 is halved; level 1 has 3 with room 2 then, but all have 3 of 4
        QuantileDesk d = deskOf(LEVELS, 1, 0, 1, 2, 3, 4, 5, 6);
        tells(d, 0, 2, 1, 6, 3, 2, 2, 2);
        for (int i = 0; i < 3; i++) {
            due(1, d.item(0, i, 1));
        }
        // four of four: nothing; level 0 may have more than its room before that
        due(7, d.add(0, 7));
        tells(d, 0, 2, 1, 7, 4, 2, 2, 2);
        QuantileDesk five = deskOf(LEVELS, 3, 0, 1, 2, 3, 4, 5, 6, 7);
        tells(five, 0, 2, 3, 7, 5, 1, 2, 1);
    }

    private static void theLowestWithMoreThanItsRoom() {
        // the eighth: level 0 has 2, its room, so level 1 with 3 is halved
        QuantileDesk d = deskOf(LEVELS, 1, 0, 1, 2, 3, 4, 5, 6, 7, 8);
        tells(d, 0, 2, 1, 8, 4, 4, 3, 3);
        int[] levels = {0, 0, 1, 2};
        for (int i = 0; i < 4; i++) {
            due(levels[i], d.item(0, i, 1));
        }
        due(7, d.item(0, 0, 0));
        due(8, d.item(0, 1, 0));
    }

    private static void theLastOfAnOddNumberStays() {
        keeps(deskOf(LEVELS, 2, 0, 9, 1, 5), 0, 9, 0, 0, 1, 1, 0);
        keeps(deskOf(LEVELS, 2, 0, 5, 5, 5), 0, 5, 0, 0, 5, 1, 0);
        // of an even number none stays
        keeps(deskOf(LEVELS, 3, 0, 9, 1, 5, 7), 0, 1, 1, 0, 7, 1, 0);
        // of five in order the fifth
        keeps(deskOf(LEVELS, 4, 0, 9, 1, 5, 7, 3), 0, 9, 0, 0, 1, 1, 0, 5, 1, 0);
    }

    private static void theCoinPicksFirstOrSecond() {
        // seed 0: x = 12345, which is below 2^16; seed 3: x = 50515 * 2^16 + 7040
        keeps(deskOf(LEVELS, 3, 0, 4, 3, 2, 1), 0, 1, 1, 0, 3, 1, 0);
        keeps(deskOf(LEVELS, 3, 3, 4, 3, 2, 1), 0, 2, 1, 0, 4, 1, 0);
        keeps(deskOf(LEVELS, 4, 3, 5, 4, 3, 2, 1), 0, 5, 0, 0, 2, 1, 0, 4, 1, 0);
    }

    private static void theCoinRunsOver() {
        int[] edges = {LEAST, GREATEST, -1, 0, 1, 2, 3, LEAST + 1, GREATEST - 1, 12345, -12345, 1 << 16, 1 << 15};
        for (int seed : edges) {
            int first = coin(seed, 1);
            int second = coin(seed, 2);
            QuantileDesk d = deskOf(LEVELS, 3, seed, 4, 2, 3, 1);
            keeps(d, 0, 1 + first, 1, 0, 3 + first, 1, 0);
            addAll(d, 0, 9, 8, 7, 6);
            keeps(d, 0, 1 + first, 1, 0, 3 + first, 1, 0, 6 + second, 1, 0, 8 + second, 1, 0);
        }
    }

    private static void behindTheLevelAboveInOrder() {
        int second = coin(0, 2);
        // what goes up later stands behind, though it is less
        QuantileDesk d = deskOf(LEVELS, 3, 0, 8, 6, 7, 5, 4, 2, 3, 1);
        keeps(d, 0, 5, 1, 0, 7, 1, 0, 1 + second, 1, 0, 3 + second, 1, 0);
    }

    private static void aNewLevelAboveTheHighest() {
        QuantileDesk d = deskOf(LEVELS, 1, 9);
        d.run(0, 1, 1, 2);
        due(1, d.told(0, 5));
        d.add(0, 3);
        due(2, d.told(0, 5));
        fillTo(d, 0, 4000);
        // a number on level 12 would weigh 4096
        due(1, d.told(0, 5) <= 12 ? 1 : 0);
        due(11, d.told(0, 5));
        due(0, d.astray());
    }

    private static void offOfAll() {
        QuantileDesk d = deskOf(ALL, 1, 1);
        due(0, d.told(0, 4));
        fillTo(d, 0, 4000);
        due(0, d.told(0, 4));
    }

    private static void offOfBounds() {
        due(0, deskOf(BOUNDS, 1, 1).told(0, 4));
        due(1, deskOf(BOUNDS, 1, 1, 4).told(0, 4));
        // gaps and slacks 1 0, 2 1, 3 0, 2 0, 2 0, 2 0
        due(3, twelveInBounds().told(0, 4));
        // a gap of 1 with slack 1 is the greatest among gaps of 1
        QuantileDesk d = sixInBounds();
        due(1, d.told(0, 4));
        d.add(0, 8);
        due(2, d.told(0, 4));
        QuantileDesk two = deskOf(BOUNDS, 1, 1);
        fillTo(two, 0, 4000);
        due(3999, two.told(0, 4));
    }

    private static void offOfLevels() {
        int[] off = {0, 0, 1, 1, 1, 2, 2, 4};
        QuantileDesk d = deskOf(LEVELS, 1, 0);
        due(0, d.told(0, 4));
        for (int i = 0; i < off.length; i++) {
            d.add(0, i);
            due(off[i], d.told(0, 4));
        }
    }

    private static void offOfThosePutIn() {
        QuantileDesk d = deskOf(LEVELS, 1, 0, 1, 2, 3);
        d.make(LEVELS, 1, 0);
        d.make(LEVELS, 1, 0);
        addAll(d, 2, 7, 8, 9);
        due(3, d.merge(1, 0));
        tells(d, 1, 2, 1, 3, 2, 1, 2, 0);
        // what was put into the one that is put in comes with it
        due(6, d.merge(2, 1));
        tells(d, 2, 2, 1, 6, 4, 2, 2, 1);
        // three and three, with four rooms: level 0 is halved, then level 1, which has four
        due(9, d.merge(2, 0));
        tells(d, 2, 2, 1, 9, 3, 6, 3, 3);
        tells(d, 0, 2, 1, 3, 2, 1, 2, 1);
        tells(d, 1, 2, 1, 3, 2, 1, 2, 0);
        due(0, d.astray());
    }

    public static void main(String[] args) {
        edge("Sketches have numbers 0, 1, .., 6 at most", TermsEdgeTest::sixNumbersFromNought);
        edge("a count of the numbers that it got, 4000 at most", TermsEdgeTest::countEndsAt4000);
        edge("they are compared as ints", TermsEdgeTest::comparedAsInts);
        edge("entries, by values, none of which falls", TermsEdgeTest::noValueFalls);
        edge("before the first one with a value above v, or the last one", TermsEdgeTest::beforeTheFirstAbove);
        edge("d = 0 if it is the first or last entry then", TermsEdgeTest::noSlackAtTheEnds);
        edge("else d = (n - 1) / k, downward, less 1, at least 0", TermsEdgeTest::slackOfTheNth);
        edge("Behind each k-th number it is thinned", TermsEdgeTest::thinnedBehindEachKth);
        edge("from the last entry but one down to the second", TermsEdgeTest::theFirstAndTheLastStay);
        edge("together below the limit", TermsEdgeTest::togetherBelowTheLimit);
        edge("its gap is added to the next one's, and it goes", TermsEdgeTest::gapsAreAdded);
        edge("levels 0, 1, .., H - 1, at first one", TermsEdgeTest::oneLevelAtFirst);
        edge("What comes stands behind level 0", TermsEdgeTest::comesBehindLevelNought);
        edge("a room is at least 2", TermsEdgeTest::roomIsAtLeastTwo);
        edge("a room is k 2^j / 3^j, downward", TermsEdgeTest::roomIsTakenDownward);
        edge("While all levels together have more than all rooms", TermsEdgeTest::onlyWhileAllHaveMoreThanAllRooms);
        edge("the lowest level that has more than its room", TermsEdgeTest::theLowestWithMoreThanItsRoom);
        edge("if it has an odd number, the last one stays", TermsEdgeTest::theLastOfAnOddNumberStays);
        edge("by a coin, the first, third (0) or the second, fourth (1)", TermsEdgeTest::theCoinPicksFirstOrSecond);
        edge("x becomes 1103515245 x + 12345 (running over)", TermsEdgeTest::theCoinRunsOver);
        edge("go behind the level above it, in order", TermsEdgeTest::behindTheLevelAboveInOrder);
        edge("a new one, if it was the highest", TermsEdgeTest::aNewLevelAboveTheHighest);
        edge("off: 0 for all", TermsEdgeTest::offOfAll);
        edge("off: for bounds the greatest sum of a gap and slack", TermsEdgeTest::offOfBounds);
        edge("off: for levels the sum of 2^h over all halvings", TermsEdgeTest::offOfLevels);
        edge("off: and those of sketches that were put into it", TermsEdgeTest::offOfThosePutIn);
        Check.end();
    }
}
