import java.math.BigInteger;
import java.util.ArrayList;
import java.util.Collections;
import java.util.List;
import java.util.TreeSet;

/** A second writing of the document, word by word and slow, that the program is held against. */
final class Model {
    private static final class Entry {
        final int value;
        long gap = 1;
        final long slack;

        Entry(int value, long slack) {
            this.value = value;
            this.slack = slack;
        }
    }

    private static final class Kept {
        final int kind;
        final int k;
        final int seed;
        int count;
        int x;
        long off;
        int halvings;
        final List<Integer> all = new ArrayList<>();
        final List<Entry> entries = new ArrayList<>();
        final List<List<Integer>> levels = new ArrayList<>();

        Kept(int kind, int k, int seed) {
            this.kind = kind;
            this.k = k;
            this.seed = seed;
            asMade();
        }

        void asMade() {
            count = 0;
            x = seed;
            off = 0;
            halvings = 0;
            all.clear();
            entries.clear();
            levels.clear();
            levels.add(new ArrayList<>());
        }

        void come(int v) {
            count++;
            if (kind == 0) {
                all.add(v);
            } else if (kind == 1) {
                comeToBounds(v);
            } else {
                levels.get(0).add(v);
                halveAsMust();
            }
        }

        private void comeToBounds(int v) {
            int n = count;
            int at = entries.size();
            for (int i = entries.size() - 1; i >= 0; i--) {
                if (entries.get(i).value > v) {
                    at = i;
                }
            }
            boolean end = at == 0 || at == entries.size();
            long slack = (n - 1) / k - 1;
            entries.add(at, new Entry(v, end || slack < 0 ? 0 : slack));
            if (n % k != 0) {
                return;
            }
            halvings++;
            for (int i = entries.size() - 2; i > 0; i--) {
                Entry e = entries.get(i);
                Entry next = entries.get(i + 1);
                if (e.gap + next.gap + next.slack < n / k) {
                    next.gap += e.gap;
                    entries.remove(i);
                }
            }
        }

        private long room(int h) {
            int j = levels.size() - 1 - h;
            BigInteger room = BigInteger.valueOf(k).multiply(BigInteger.TWO.pow(j))
                    .divide(BigInteger.valueOf(3).pow(j));
            return room.max(BigInteger.TWO).longValue();
        }

        void halveAsMust() {
            while (true) {
                long rooms = 0;
                for (int h = 0; h < levels.size(); h++) {
                    rooms += room(h);
                }
                if (kept() <= rooms) {
                    return;
                }
                for (int h = 0; h < levels.size(); h++) {
                    if (levels.get(h).size() > room(h)) {
                        halve(h);
                        break;
                    }
                }
            }
        }

        private void halve(int h) {
            List<Integer> level = levels.get(h);
            Collections.sort(level);
            Integer last = level.size() % 2 == 1 ? level.remove(level.size() - 1) : null;
            x = x * 1103515245 + 12345;
            boolean second = (x & 0x10000) != 0;
            if (h + 1 == levels.size()) {
                levels.add(new ArrayList<>());
            }
            for (int i = 0; i < level.size(); i++) {
                if ((i % 2 == 1) == second) {
                    levels.get(h + 1).add(level.get(i));
                }
            }
            level.clear();
            if (last != null) {
                level.add(last);
            }
            off += Math.round(Math.pow(2, h));
            halvings++;
        }

        int kept() {
            if (kind == 0) {
                return all.size();
            }
            if (kind == 1) {
                return entries.size();
            }
            int sum = 0;
            for (List<Integer> level : levels) {
                sum += level.size();
            }
            return sum;
        }

        long off() {
            long most = off;
            for (Entry e : entries) {
                most = Math.max(most, e.gap + e.slack);
            }
            return most;
        }

        int rank(int v) {
            if (kind == 1) {
                return rankInBounds(v);
            }
            long rank = 0;
            for (int a : all) {
                rank += a <= v ? 1 : 0;
            }
            long weight = 1;
            for (List<Integer> level : levels) {
                for (int a : level) {
                    rank += a <= v ? weight : 0;
                }
                weight *= 2;
            }
            return (int) rank;
        }

        private int rankInBounds(int v) {
            if (entries.isEmpty() || v < entries.get(0).value) {
                return 0;
            }
            if (v >= entries.get(entries.size() - 1).value) {
                return count;
            }
            int last = 0;
            for (int i = 0; i < entries.size(); i++) {
                if (entries.get(i).value <= v) {
                    last = i;
                }
            }
            return (int) ((low(last) + (high(last + 1) - 1)) / 2);
        }

        private long low(int i) {
            long sum = 0;
            for (int j = 0; j <= i; j++) {
                sum += entries.get(j).gap;
            }
            return sum;
        }

        private long high(int i) {
            return low(i) + entries.get(i).slack;
        }

        int value(int rank) {
            if (kind == 0) {
                List<Integer> sorted = new ArrayList<>(all);
                Collections.sort(sorted);
                return sorted.get(rank - 1);
            }
            if (kind == 2) {
                TreeSet<Integer> there = new TreeSet<>();
                for (List<Integer> level : levels) {
                    there.addAll(level);
                }
                for (int a : there) {
                    if (rank(a) >= rank) {
                        return a;
                    }
                }
                throw new AssertionError("no number has the rank");
            }
            long least = Long.MAX_VALUE;
            int found = 0;
            long low = 0;
            for (Entry e : entries) {
                low += e.gap;
                long far = Math.max(Math.abs(low - rank), Math.abs(low + e.slack - rank));
                if (far < least) {
                    least = far;
                    found = e.value;
                }
            }
            return found;
        }

        int item(int i, int what) {
            if (kind == 0) {
                List<Integer> sorted = new ArrayList<>(all);
                Collections.sort(sorted);
                return what == 0 ? sorted.get(i) : 0;
            }
            if (kind == 1) {
                Entry e = entries.get(i);
                return what == 0 ? e.value : (int) (what == 1 ? e.gap : e.slack);
            }
            int left = i;
            for (int h = 0; h < levels.size(); h++) {
                List<Integer> level = levels.get(h);
                if (left < level.size()) {
                    return what == 0 ? level.get(left) : what == 1 ? h : 0;
                }
                left -= level.size();
            }
            throw new AssertionError("no such item");
        }
    }

    private final List<Kept> kepts = new ArrayList<>();

    int make(int kind, int k, int seed) {
        ask(kind >= 0 && kind <= 2 && k >= 1 && k <= 200);
        room(kepts.size() + 1, 6);
        kepts.add(new Kept(kind, k, seed));
        return kepts.size() - 1;
    }

    int add(int sketch, int v) {
        Kept s = at(sketch);
        room(s.count + 1, 4000);
        s.come(v);
        return s.count;
    }

    int run(int sketch, int first, int step, int n) {
        Kept s = at(sketch);
        ask(n >= 1 && n <= 1000);
        room(s.count + n, 4000);
        for (int i = 0; i < n; i++) {
            s.come(first + i * step);
        }
        return s.count;
    }

    int merge(int to, int from) {
        Kept a = at(to);
        Kept b = at(from);
        ask(to != from && a.kind == b.kind && a.kind != 1 && (a.kind == 0 || a.k == b.k));
        room(a.count + b.count, 4000);
        a.count += b.count;
        a.all.addAll(b.all);
        a.off += b.off;
        for (int h = 0; h < b.levels.size(); h++) {
            if (h == a.levels.size()) {
                a.levels.add(new ArrayList<>());
            }
            a.levels.get(h).addAll(b.levels.get(h));
        }
        if (a.kind == 2) {
            a.halveAsMust();
        }
        return a.count;
    }

    int rank(int sketch, int v) {
        return at(sketch).rank(v);
    }

    int value(int sketch, int rank) {
        Kept s = at(sketch);
        ask(rank >= 1 && rank <= s.count);
        return s.value(rank);
    }

    int bound(int sketch, int rank, boolean last) {
        Kept s = at(sketch);
        ask(rank >= 1 && rank <= s.count);
        long to = last ? rank + s.off() : rank - s.off();
        return s.value((int) Math.max(1, Math.min(s.count, to)));
    }

    int told(int sketch, int what) {
        Kept s = at(sketch);
        ask(what >= 0 && what <= 6);
        int[] all = {s.kind, s.k, s.count, s.kept(), (int) s.off(), s.kind == 2 ? s.levels.size() : 0, s.halvings};
        return all[what];
    }

    int item(int sketch, int i, int what) {
        Kept s = at(sketch);
        ask(i >= 0 && i < s.kept() && what >= 0 && what <= 2);
        return s.item(i, what);
    }

    int clear(int sketch) {
        Kept s = at(sketch);
        int had = s.count;
        s.asMade();
        return had;
    }

    int sketches() {
        return kepts.size();
    }

    int astray() {
        return 0;
    }

    private Kept at(int sketch) {
        if (sketch < 0 || sketch >= kepts.size()) {
            throw new IndexOutOfBoundsException();
        }
        return kepts.get(sketch);
    }

    private static void ask(boolean fits) {
        if (!fits) {
            throw new IllegalArgumentException();
        }
    }

    private static void room(int wanted, int most) {
        if (wanted > most) {
            throw new UnsupportedOperationException();
        }
    }
}
