import java.util.function.Consumer;

/** What the tests of boundary cases have in common: names, values, and how a test of one sentence is run. */
abstract class Edges {
    static final int NONE = FilterBench.NONE;
    static final int LEAST = Integer.MIN_VALUE;
    static final int GREATEST = Integer.MAX_VALUE;

    static final int DOUBLE = 0;
    static final int FLOAT = 1;
    static final int FIXED = 2;

    static final int GAIN = 0;
    static final int POLE = 1;
    static final int DIRECT = 2;
    static final int SECOND = 3;
    static final int TURNED = 4;
    static final int PASS = 5;
    static final int DELAY = 6;
    static final int MEAN = 7;
    static final int COMB = 8;
    static final int CLIP = 9;
    static final int DEAD = 10;
    static final int PEAK = 11;
    static final int DOWN = 12;
    static final int UP = 13;
    static final int HOLD = 14;
    static final int MIX = 15;

    /** How many coefficients a section of each kind has. */
    static final int[] FACTORS = {1, 2, 5, 5, 5, 1, 0, 1, 1, 1, 1, 1, 0, 0, 0, 2};

    /** One, as a coefficient of FIXED. */
    static final long WHOLE = 16384;
    static final long NAN = 0x7ff8000000000000L;
    static final long FLOAT_NAN = 0x7fc00000L;
    static final long INFINITY = 0x7ff0000000000000L;
    static final long FLOAT_INFINITY = 0x7f800000L;

    /** A test of its own: what it throws itself, it fails by. */
    static void test(String name, Consumer<Check> body) {
        Check t = new Check(name);
        try {
            body.accept(t);
        } catch (RuntimeException e) {
            e.printStackTrace(System.out);
            t.fail("threw " + e);
        }
        t.close();
    }

    static long d(double v) {
        return Double.doubleToLongBits(v);
    }

    static long f(double v) {
        return Float.floatToIntBits((float) v);
    }

    /** One, as a coefficient of a sort. */
    static long one(int sort) {
        return sort == DOUBLE ? d(1) : sort == FLOAT ? f(1) : WHOLE;
    }

    /** A small whole number as a sample of a sort. */
    static long sample(int sort, int v) {
        return sort == DOUBLE ? d(v) : sort == FLOAT ? f(v) : v;
    }

    static long[] raw(long... v) {
        return v;
    }

    /** The bench with one section in its chain 0. */
    static Bench alone(int kind, int sort, int length, long... factors) {
        Bench x = new Bench();
        x.alone(kind, sort, length, factors);
        return x;
    }

    /** One of FIXED, with its rounding and limit. */
    static Bench fixed(int kind, int rounding, int limit, long... factors) {
        Bench x = alone(kind, FIXED, 2, factors);
        x.rule(0, rounding, limit);
        return x;
    }

    /** Each sample fed to chain 0 makes the one that is due. */
    static void makes(Check t, String what, Bench x, long[] in, long[] due) {
        for (int i = 0; i < in.length; i++) {
            t.due(what + ": feed " + in[i], x.feed(0, in[i]), 1);
            t.due(what + ": made of " + in[i] + " at " + i, x.last(0), due[i]);
        }
    }

    /** The whole output of a chain. */
    static void outputs(Check t, String what, Bench x, int c, long... due) {
        t.due(what + ": how many", x.chain(c, 2), due.length);
        for (int i = 0; i < due.length; i++) {
            t.due(what + ": output " + i, x.output(c, i), due[i]);
        }
    }

    /** The states of a section, from the first on. */
    static void states(Check t, String what, Bench x, int s, long... due) {
        for (int k = 0; k < due.length; k++) {
            t.due(what + ": state " + k, x.state(s, k), due[k]);
        }
    }
}
