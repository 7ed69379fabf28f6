import java.math.BigInteger;
import java.util.function.IntSupplier;

/** What the tests with answers worked out by hand have in common. */
abstract class Answers {
    static final int LEAST = Integer.MIN_VALUE;
    static final int GREATEST = Integer.MAX_VALUE;
    static final int ALL = 0;
    static final int BOUNDS = 1;
    static final int LEVELS = 2;

    private static final BigInteger FACTOR = BigInteger.valueOf(1103515245);
    private static final BigInteger TWO_TO_32 = BigInteger.ONE.shiftLeft(32);

    /** The promise or the words of the document that are under test. */
    static String sentence;

    static void edge(String words, Runnable test) {
        sentence = words;
        test.run();
    }

    static void due(int want, int got) {
        Check.due(sentence, want, got);
    }

    static void dueText(String want, String got) {
        Check.dueText(sentence, want, got);
    }

    static void noSuch(IntSupplier call) {
        Check.dueThrow(sentence, IndexOutOfBoundsException.class, call);
    }

    static void illegal(IntSupplier call) {
        Check.dueThrow(sentence, IllegalArgumentException.class, call);
    }

    static void full(IntSupplier call) {
        Check.dueThrow(sentence, UnsupportedOperationException.class, call);
    }

    /** A desk with one sketch, number 0, that got these numbers. */
    static QuantileDesk deskOf(int kind, int k, int seed, int... values) {
        QuantileDesk d = new QuantileDesk();
        d.make(kind, k, seed);
        addAll(d, 0, values);
        return d;
    }

    static void addAll(QuantileDesk d, int s, int... values) {
        for (int v : values) {
            d.add(s, v);
        }
    }

    /** Lets numbers come until the sketch has this count. */
    static void fillTo(QuantileDesk d, int s, int count) {
        while (d.told(s, 2) < count) {
            int had = d.told(s, 2);
            d.run(s, had, 7, Math.min(1000, count - had));
        }
    }

    /** What is kept, by item: each a value, its gap or level, and its slack. */
    static void keeps(QuantileDesk d, int s, int... parts) {
        due(parts.length / 3, d.told(s, 3));
        for (int i = 0; i < parts.length; i++) {
            due(parts[i], d.item(s, i / 3, i % 3));
        }
        illegal(() -> d.item(s, parts.length / 3, 0));
    }

    static void tells(QuantileDesk d, int s, int... want) {
        for (int what = 0; what < want.length; what++) {
            due(want[what], d.told(s, what));
        }
    }

    /** All that a desk answers of what it holds, but for the coins to come. */
    static String state(QuantileDesk d) {
        StringBuilder text = new StringBuilder();
        text.append(d.sketches()).append(' ').append(d.astray());
        for (int s = 0; s < d.sketches(); s++) {
            text.append('\n').append(stateOf(d, s));
        }
        return text.toString();
    }

    static String stateOf(QuantileDesk d, int s) {
        StringBuilder text = new StringBuilder();
        for (int what = 0; what < 7; what++) {
            text.append(d.told(s, what)).append(' ');
        }
        for (int i = 0; i < d.told(s, 3); i++) {
            text.append(d.item(s, i, 0)).append('/').append(d.item(s, i, 1)).append('/').append(d.item(s, i, 2))
                    .append(' ');
        }
        return text.toString();
    }

    /** Bit 16 of x behind so many steps from the seed, in numbers without an end. */
    static int coin(int seed, int steps) {
        BigInteger x = BigInteger.valueOf(seed);
        for (int i = 0; i < steps; i++) {
            x = x.multiply(FACTOR).add(BigInteger.valueOf(12345)).mod(TWO_TO_32);
        }
        return x.testBit(16) ? 1 : 0;
    }
}
