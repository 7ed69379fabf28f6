import java.util.ArrayList;
import java.util.Arrays;

/** Sketches of rows of numbers that come one by one, for ranks and what stands at them. */
public final class QuantileDesk {
    private static final int ALL = 0;
    private static final int BOUNDS = 1;
    private static final int LEVELS = 2;
    private static final int MOST_SKETCHES = 6;
    private static final int MOST_K = 200;
    private static final int MOST_COUNT = 4000;
    private static final int MOST_RUN = 1000;

    private final ArrayList<Sketch> made;

    public QuantileDesk() {
        made = new ArrayList<>();
    }

    public int make(int kind, int k, int seed) throws IllegalArgumentException, UnsupportedOperationException {
        if (kind < ALL || kind > LEVELS || k < 1 || k > MOST_K) {
            throw new IllegalArgumentException();
        }
        if (made.size() >= MOST_SKETCHES) {
            throw new UnsupportedOperationException();
        }
        made.add(newSketch(kind, k, seed));
        return made.size() - 1;
    }

    public int add(int sketch, int v) throws IndexOutOfBoundsException, UnsupportedOperationException {
        Sketch s = sketchAt(sketch);
        refuseAbove(s.count + 1);
        s.take(v);
        return s.count;
    }

    public int run(int sketch, int first, int step, int n)
            throws IndexOutOfBoundsException, IllegalArgumentException, UnsupportedOperationException {
        Sketch s = sketchAt(sketch);
        if (n < 1 || n > MOST_RUN) {
            throw new IllegalArgumentException();
        }
        refuseAbove(s.count + n);
        int v = first;
        for (int i = 0; i < n; i++) {
            s.take(v);
            v += step;
        }
        return s.count;
    }

    public int merge(int to, int from)
            throws IndexOutOfBoundsException, IllegalArgumentException, UnsupportedOperationException {
        Sketch taker = sketchAt(to);
        Sketch giver = sketchAt(from);
        if (to == from || !taker.fits(giver)) {
            throw new IllegalArgumentException();
        }
        refuseAbove(taker.count + giver.count);
        taker.absorb(giver);
        return taker.count;
    }

    public int rank(int sketch, int v) throws IndexOutOfBoundsException {
        return sketchAt(sketch).rankOf(v);
    }

    public int value(int sketch, int rank) throws IndexOutOfBoundsException, IllegalArgumentException {
        Sketch s = sketchAt(sketch);
        refuseRank(s, rank);
        return s.standingAt(rank);
    }

    public int bound(int sketch, int rank, boolean last) throws IndexOutOfBoundsException, IllegalArgumentException {
        Sketch s = sketchAt(sketch);
        refuseRank(s, rank);
        int off = s.off();
        return s.standingAt(last ? Math.min(s.count, rank + off) : Math.max(1, rank - off));
    }

    public int told(int sketch, int what) throws IndexOutOfBoundsException, IllegalArgumentException {
        Sketch s = sketchAt(sketch);
        switch (what) {
            case 0:
                return s.kind();
            case 1:
                return s.k;
            case 2:
                return s.count;
            case 3:
                return s.kept();
            case 4:
                return s.off();
            case 5:
                return s.height();
            case 6:
                return s.halvings();
            default:
                throw new IllegalArgumentException();
        }
    }

    public int item(int sketch, int i, int what) throws IndexOutOfBoundsException, IllegalArgumentException {
        Sketch s = sketchAt(sketch);
        if (i < 0 || i >= s.kept() || what < 0 || what > 2) {
            throw new IllegalArgumentException();
        }
        if (what == 0) {
            return s.valueOf(i);
        }
        return what == 1 ? s.gapOrLevelOf(i) : s.slackOf(i);
    }

    public int clear(int sketch) throws IndexOutOfBoundsException {
        Sketch s = sketchAt(sketch);
        int had = s.count;
        s.empty();
        return had;
    }

    public int sketches() {
        return made.size();
    }

    public int astray() {
        int wrong = 0;
        for (int i = 0; i < made.size(); i++) {
            if (made.get(i).isAstray()) {
                wrong++;
            }
        }
        return wrong;
    }

    private static Sketch newSketch(int kind, int k, int seed) {
        if (kind == ALL) {
            return new All(k);
        }
        return kind == BOUNDS ? new Bounds(k) : new Levels(k, seed);
    }

    private Sketch sketchAt(int sketch) {
        if (sketch < 0 || sketch >= made.size()) {
            throw new IndexOutOfBoundsException();
        }
        return made.get(sketch);
    }

    private static void refuseAbove(int count) {
        if (count > MOST_COUNT) {
            throw new UnsupportedOperationException();
        }
    }

    private static void refuseRank(Sketch s, int rank) {
        if (rank < 1 || rank > s.count) {
            throw new IllegalArgumentException();
        }
    }

    /** What the three kinds do with rows of ints; from is the first place, to the one behind the last. */
    private static final class Rows {
        /** The first place with a value above v in a part that is in order; to, if there is none. */
        static int firstAbove(int[] row, int from, int to, int v) {
            int low = from;
            int high = to;
            for (int i = from; i <= to && low < high; i++) {
                int middle = (low + high) >>> 1;
                if (row[middle] > v) {
                    high = middle;
                } else {
                    low = middle + 1;
                }
            }
            return low;
        }

        /** Puts v at a place, and what stood from there up to end moves one on. */
        static void insert(int[] row, int place, int end, int v) {
            System.arraycopy(row, place, row, place + 1, end - place);
            row[place] = v;
        }

        static void sort(int[] row, int from, int to) {
            for (int i = from + 1; i < to; i++) {
                int v = row[i];
                insert(row, firstAbove(row, from, i, v), i, v);
            }
        }

        static boolean fall(int[] row, int size) {
            for (int i = 1; i < size; i++) {
                if (row[i] < row[i - 1]) {
                    return true;
                }
            }
            return false;
        }
    }

    private abstract static class Sketch {
        final int k;
        int count;

        Sketch(int k) {
            this.k = k;
        }

        abstract int kind();

        /** One more number; the caller has seen to it that there is room. */
        abstract void take(int v);

        /** If what the other one has may come to this one. */
        abstract boolean fits(Sketch other);

        abstract void absorb(Sketch other);

        abstract int rankOf(int v);

        /** What stands at a rank of 1 .. count. */
        abstract int standingAt(int rank);

        abstract int kept();

        abstract int valueOf(int i);

        abstract int gapOrLevelOf(int i);

        abstract int slackOf(int i);

        abstract int off();

        abstract int height();

        abstract int halvings();

        abstract void empty();

        abstract boolean isAstray();
    }

    /** All numbers, in the order of values. */
    private static final class All extends Sketch {
        private final int[] values = new int[MOST_COUNT];

        All(int k) {
            super(k);
        }

        int kind() {
            return ALL;
        }

        void take(int v) {
            Rows.insert(values, Rows.firstAbove(values, 0, count, v), count, v);
            count++;
        }

        boolean fits(Sketch other) {
            return other instanceof All;
        }

        void absorb(Sketch other) {
            if (other instanceof All from) {
                for (int i = 0; i < from.count; i++) {
                    take(from.values[i]);
                }
            }
        }

        int rankOf(int v) {
            return Rows.firstAbove(values, 0, count, v);
        }

        int standingAt(int rank) {
            return values[rank - 1];
        }

        int kept() {
            return count;
        }

        int valueOf(int i) {
            return values[i];
        }

        int gapOrLevelOf(int i) {
            return 0;
        }

        int slackOf(int i) {
            return 0;
        }

        int off() {
            return 0;
        }

        int height() {
            return 0;
        }

        int halvings() {
            return 0;
        }

        void empty() {
            count = 0;
        }

        boolean isAstray() {
            return Rows.fall(values, count);
        }
    }

    /** Entries of a value, a gap and a slack, by values. */
    private static final class Bounds extends Sketch {
        private final int[] values = new int[MOST_COUNT];
        private final int[] gaps = new int[MOST_COUNT];
        private final int[] slacks = new int[MOST_COUNT];
        private int size;
        private int thinnings;

        Bounds(int k) {
            super(k);
        }

        int kind() {
            return BOUNDS;
        }

        void take(int v) {
            count++;
            int place = Rows.firstAbove(values, 0, size, v);
            boolean atAnEnd = place == 0 || place == size;
            int slack = atAnEnd ? 0 : Math.max(0, (count - 1) / k - 1);
            Rows.insert(values, place, size, v);
            Rows.insert(gaps, place, size, 1);
            Rows.insert(slacks, place, size, slack);
            size++;
            if (count % k == 0) {
                thin(count / k);
            }
        }

        /** Entries that stay are packed at the row's end on the way down, and moved to its start at last. */
        private void thin(int limit) {
            thinnings++;
            if (size < 3) {
                return;
            }
            int next = size - 1;
            for (int i = size - 2; i >= 1; i--) {
                if (gaps[i] + gaps[next] + slacks[next] < limit) {
                    gaps[next] += gaps[i];
                } else {
                    next--;
                    values[next] = values[i];
                    gaps[next] = gaps[i];
                    slacks[next] = slacks[i];
                }
            }
            int stay = size - next;
            System.arraycopy(values, next, values, 1, stay);
            System.arraycopy(gaps, next, gaps, 1, stay);
            System.arraycopy(slacks, next, slacks, 1, stay);
            size = stay + 1;
        }

        boolean fits(Sketch other) {
            return false;
        }

        void absorb(Sketch other) {
            // bounds are never put together: fits() says so
        }

        int rankOf(int v) {
            int next = Rows.firstAbove(values, 0, size, v);
            if (next == 0) {
                return 0;
            }
            if (next == size) {
                return count;
            }
            int low = lowBefore(next);
            int high = low + gaps[next] + slacks[next];
            return (low + high - 1) / 2;
        }

        int standingAt(int rank) {
            int best = 0;
            int least = Integer.MAX_VALUE;
            int low = 0;
            for (int i = 0; i < size; i++) {
                low += gaps[i];
                int far = Math.max(Math.abs(rank - low), Math.abs(rank - low - slacks[i]));
                if (far < least) {
                    least = far;
                    best = i;
                }
            }
            return values[best];
        }

        int kept() {
            return size;
        }

        int valueOf(int i) {
            return values[i];
        }

        int gapOrLevelOf(int i) {
            return gaps[i];
        }

        int slackOf(int i) {
            return slacks[i];
        }

        int off() {
            int most = 0;
            for (int i = 0; i < size; i++) {
                most = Math.max(most, gaps[i] + slacks[i]);
            }
            return most;
        }

        int height() {
            return 0;
        }

        int halvings() {
            return thinnings;
        }

        void empty() {
            count = 0;
            size = 0;
            thinnings = 0;
        }

        boolean isAstray() {
            return lowBefore(size) != count || Rows.fall(values, size);
        }

        /** The low of the entry before place end. */
        private int lowBefore(int end) {
            int low = 0;
            for (int i = 0; i < end; i++) {
                low += gaps[i];
            }
            return low;
        }
    }

    /** Levels whose numbers weigh 2^level, halved by a coin when they are full. */
    private static final class Levels extends Sketch {
        /** A number on level 12 would weigh more than the highest count. */
        private static final int MOST_LEVELS = 12;

        private final int seed;
        /** The highest level first, level 0 last: what comes stands at the end, what is halved goes up in its place. */
        private final int[] values = new int[MOST_COUNT];
        private final int[] sizes = new int[MOST_LEVELS];
        /** Rooms by how far a level lies below the highest one. */
        private final int[] rooms = new int[MOST_LEVELS];
        private int height = 1;
        private int kept;
        private int coin;
        private int off;
        private int halvings;

        Levels(int k, int seed) {
            super(k);
            this.seed = seed;
            coin = seed;
            long up = k;
            long down = 1;
            for (int j = 0; j < MOST_LEVELS; j++) {
                rooms[j] = (int) Math.max(2, up / down);
                up *= 2;
                down *= 3;
            }
        }

        int kind() {
            return LEVELS;
        }

        void take(int v) {
            values[kept] = v;
            kept++;
            sizes[0]++;
            count++;
            settle();
        }

        boolean fits(Sketch other) {
            return other instanceof Levels && other.k == k;
        }

        void absorb(Sketch other) {
            if (other instanceof Levels from) {
                height = Math.max(height, from.height);
                for (int h = 0; h < from.height; h++) {
                    appendLevel(h, from);
                }
                count += from.count;
                off += from.off;
                settle();
            }
        }

        private void appendLevel(int h, Levels from) {
            int more = from.sizes[h];
            int end = startOf(h) + sizes[h];
            System.arraycopy(values, end, values, end + more, kept - end);
            System.arraycopy(from.values, from.startOf(h), values, end, more);
            sizes[h] += more;
            kept += more;
        }

        private void settle() {
            // a halving takes one number away at least, so there are never more of them than numbers
            for (int turn = 0; turn < MOST_COUNT && kept > allRooms(); turn++) {
                halve(lowestFull());
            }
        }

        private int allRooms() {
            int sum = 0;
            for (int j = 0; j < height; j++) {
                sum += rooms[j];
            }
            return sum;
        }

        private int lowestFull() {
            int h = 0;
            while (h < height - 1 && sizes[h] <= rooms[height - 1 - h]) {
                h++;
            }
            return h;
        }

        private void halve(int h) {
            if (h == height - 1) {
                height++;
            }
            int size = sizes[h];
            int half = size / 2;
            int odd = size % 2;
            int start = startOf(h);
            int end = start + size;
            Rows.sort(values, start, end);
            int pick = toss();
            for (int i = 0; i < half; i++) {
                values[start + i] = values[start + 2 * i + pick];
            }
            if (odd == 1) {
                values[start + half] = values[end - 1];
            }
            System.arraycopy(values, end, values, end - half, kept - end);
            kept -= half;
            sizes[h] = odd;
            sizes[h + 1] += half;
            off += 1 << h;
            halvings++;
        }

        private int toss() {
            coin = 1103515245 * coin + 12345;
            return (coin >>> 16) & 1;
        }

        private int startOf(int level) {
            int start = 0;
            for (int h = height - 1; h > level; h--) {
                start += sizes[h];
            }
            return start;
        }

        int rankOf(int v) {
            int rank = 0;
            int i = 0;
            for (int h = height - 1; h >= 0; h--) {
                int end = i + sizes[h];
                for (; i < end; i++) {
                    if (values[i] <= v) {
                        rank += 1 << h;
                    }
                }
            }
            return rank;
        }

        /** The least of all ints with such a rank is a number that is kept, as ranks rise at those alone. */
        int standingAt(int rank) {
            long low = Integer.MIN_VALUE;
            long high = Integer.MAX_VALUE;
            for (int bit = 0; bit < 32 && low < high; bit++) {
                long middle = (low + high) >> 1;
                if (rankOf((int) middle) >= rank) {
                    high = middle;
                } else {
                    low = middle + 1;
                }
            }
            return (int) low;
        }

        int kept() {
            return kept;
        }

        int valueOf(int i) {
            int h = gapOrLevelOf(i);
            int lower = 0;
            for (int l = 0; l < h; l++) {
                lower += sizes[l];
            }
            return values[startOf(h) + i - lower];
        }

        int gapOrLevelOf(int i) {
            int h = 0;
            int end = sizes[0];
            while (h < height - 1 && i >= end) {
                h++;
                end += sizes[h];
            }
            return h;
        }

        int slackOf(int i) {
            return 0;
        }

        int off() {
            return off;
        }

        int height() {
            return height;
        }

        int halvings() {
            return halvings;
        }

        void empty() {
            Arrays.fill(sizes, 0);
            height = 1;
            count = 0;
            kept = 0;
            coin = seed;
            off = 0;
            halvings = 0;
        }

        boolean isAstray() {
            int weight = 0;
            for (int h = 0; h < height; h++) {
                weight += sizes[h] << h;
            }
            return weight != count;
        }
    }
}
