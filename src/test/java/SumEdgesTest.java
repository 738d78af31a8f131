/** The boundary cases of "Terms" I: the bits of the sorts, sums, roundings, limits and the rest. */
public final class SumEdgesTest extends Edges {

    public static void main(String[] args) {
        test("I of FLOAT each product is rounded to a float", SumEdgesTest::floatProducts);
        test("I of FLOAT each sum is rounded to a float", SumEdgesTest::floatSums);
        test("I of FLOAT a product is rounded ahead of the sum", SumEdgesTest::productAheadOfSum);
        test("I of DOUBLE each product, each sum is rounded to a double", SumEdgesTest::doubleSums);
        test("I the greatest double and float, and what is above", SumEdgesTest::above);
        test("I the least double and float, and what is below", SumEdgesTest::below);
        test("I half way between two doubles or floats, a bit more and a bit less", SumEdgesTest::halfWay);
        test("I far below the least double and float", SumEdgesTest::farBelow);
        test("I doubles at the edges, each with each", SumEdgesTest::doublePairs);
        test("I floats at the edges, each with each", SumEdgesTest::floatPairs);
        test("I coefficients of FIXED mean c / 16384", SumEdgesTest::sixteenThousands);
        test("I the bits of FLOAT are 32, with their sign", SumEdgesTest::floatBits);
        test("I not-a-number as doubleToLongBits tells it", SumEdgesTest::doubleNan);
        test("I not-a-number as floatToIntBits tells it", SumEdgesTest::floatNan);
        test("I not-a-number that a sum makes", SumEdgesTest::madeNan);
        test("I a sum from the left", SumEdgesTest::fromTheLeft);
        test("I a sum of FIXED: all exactly", SumEdgesTest::exactly);
        test("I rounding 0: to the nearest, halves upwards", SumEdgesTest::roundingNearest);
        test("I rounding 1: towards 0", SumEdgesTest::roundingTowardsZero);
        test("I rounding 2: the rest is added first", SumEdgesTest::roundingRest);
        test("I rounding 2: what is lost is the rest", SumEdgesTest::lost);
        test("I roundings 0 and 1 neither add nor change the rest", SumEdgesTest::restUntouched);
        test("I what is no short is an over", SumEdgesTest::overs);
        test("I an over is what is no short when rounded", SumEdgesTest::oversRounded);
        test("I limit 0: the nearest short", SumEdgesTest::limitNearest);
        test("I limit 1: the lowest 16 bits with their sign", SumEdgesTest::limitBits);
        test("I the rest stays what it is at an over", SumEdgesTest::restAtOver);
        Check.end();
    }

    private static void floatProducts(Check t) {
        float near = 1 + 0x1p-12f;
        Bench x = alone(GAIN, FLOAT, 0, f(near));
        t.due("half way, to the even one", x.of(0, f(near)), f(1 + 0x1p-11));
        t.due("above half way", x.of(0, f(near + 0x1p-23)), f(1 + 0x1p-11 + 0x1p-22));
        t.due("below half way", x.of(0, f(near - 0x1p-23)), f(1 + 0x1p-11 - 0x1p-23));
        x.coefficient(0, 0, f(3));
        t.due("exact", x.of(0, f(0x1p23 - 1)), f(3 * 0x1p23 - 4));
        t.due("half way, to the even one upwards", x.of(0, f(0x1p23 + 1)), f(3 * 0x1p23 + 4));
        t.due("half way, to the even one below 0", x.of(0, f(-0x1p23 - 1)), f(-3 * 0x1p23 - 4));
    }

    private static void floatSums(Check t) {
        long[] next = {1, 2, 3, 5, 6, 7};
        double[] due = {0x1p24, 0x1p24 + 2, 0x1p24 + 4, 0x1p24 + 4, 0x1p24 + 6, 0x1p24 + 8};
        for (int i = 0; i < next.length; i++) {
            Bench x = alone(POLE, FLOAT, 0, f(1), f(1));
            x.feed(0, f(0x1p24));
            t.due("2 ^ 24 + " + next[i], x.of(0, f(next[i])), f(due[i]));
            Bench y = alone(POLE, FLOAT, 0, f(1), f(1));
            y.feed(0, f(-0x1p24));
            t.due("-2 ^ 24 - " + next[i], y.of(0, f(-next[i])), f(-due[i]));
        }
    }

    private static void productAheadOfSum(Check t) {
        float near = 1 + 0x1p-12f;
        Bench x = alone(POLE, FLOAT, 0, f(1), f(1));
        x.feed(0, f(-1 - 0x1p-11));
        x.coefficient(0, 0, f(near));
        t.due("what the product lost is lost", x.of(0, f(near)), 0);
        Bench y = alone(POLE, DOUBLE, 0, d(1), d(1));
        y.feed(0, d(-1 - 0x1p-26));
        y.coefficient(0, 0, d(1 + 0x1p-27));
        t.due("of DOUBLE too", y.of(0, d(1 + 0x1p-27)), 0);
    }

    private static void doubleSums(Check t) {
        long[] next = {1, 2, 3, 5, 6, 7};
        long[] due = {0, 2, 4, 4, 6, 8};
        for (int i = 0; i < next.length; i++) {
            Bench x = alone(POLE, DOUBLE, 0, d(1), d(1));
            x.feed(0, d(0x1p53));
            t.due("2 ^ 53 + " + next[i], x.of(0, d(next[i])), d(0x1p53 + due[i]));
        }
        Bench y = alone(GAIN, DOUBLE, 0, d(3));
        t.due("exact", y.of(0, d(0x1p52 - 1)), d(3 * 0x1p52 - 4));
        t.due("half way, to the even one", y.of(0, d(0x1p52 + 1)), d(3 * 0x1p52 + 4));
        t.due("a product that is no float", y.of(0, d(0.1)), d(3 * 0.1));
    }

    private static void above(Check t) {
        Bench x = alone(POLE, DOUBLE, 0, d(1), d(1));
        x.feed(0, d(Double.MAX_VALUE));
        t.due("less than half of the last place above", x.of(0, d(Math.nextDown(0x1p970))), d(Double.MAX_VALUE));
        t.due("half of it", x.of(0, d(0x1p970)), INFINITY);
        Bench y = alone(POLE, FLOAT, 0, f(1), f(1));
        y.feed(0, f(Float.MAX_VALUE));
        t.due("less than half of the last place above", y.of(0, f(Math.nextDown(0x1p103f))), f(Float.MAX_VALUE));
        t.due("half of it", y.of(0, f(0x1p103)), FLOAT_INFINITY);
        Bench z = alone(GAIN, DOUBLE, 0, d(2));
        t.due("the greatest exponent", z.of(0, d(0x1p1022)), d(0x1p1023));
        t.due("twice as much", z.of(0, d(-0x1p1023)), d(Double.NEGATIVE_INFINITY));
        Bench w = alone(GAIN, FLOAT, 0, f(2));
        t.due("the greatest exponent of FLOAT", w.of(0, f(0x1p126)), f(0x1p127));
        t.due("twice as much of FLOAT", w.of(0, f(-0x1p127)), f(Float.NEGATIVE_INFINITY));
    }

    private static void below(Check t) {
        Bench x = alone(GAIN, DOUBLE, 0, d(0.5));
        t.due("half of the least", x.of(0, d(Double.MIN_VALUE)), 0);
        t.due("half of the least below 0", x.of(0, d(-Double.MIN_VALUE)), d(-0.0));
        t.due("half of three of the least", x.of(0, 3), 2);
        t.due("half of the least with all its places", x.of(0, d(Double.MIN_NORMAL)), d(0x1p-1023));
        x.coefficient(0, 0, d(Math.nextUp(0.5)));
        t.due("more than half of the least", x.of(0, d(Double.MIN_VALUE)), d(Double.MIN_VALUE));
        Bench y = alone(GAIN, FLOAT, 0, f(0.5));
        t.due("half of the least float", y.of(0, 1), 0);
        t.due("half of the least float below 0", y.of(0, f(-Float.MIN_VALUE)), f(-0.0));
        t.due("half of three of the least float", y.of(0, 3), 2);
        t.due("half of the least float with all its places", y.of(0, f(0x1p-126)), f(0x1p-127));
        y.coefficient(0, 0, f(Math.nextUp(0.5f)));
        t.due("more than half of the least float", y.of(0, 1), 1);
    }

    /** What a GAIN makes of b by a. */
    private static long product(int sort, long a, long b) {
        return alone(GAIN, sort, 0, a).of(0, b);
    }

    /** What a POLE makes of a and b. */
    private static long sum(int sort, long a, long b) {
        // By -1 a state of 0.0 leaves a b of -0.0 as it is.
        Bench x = alone(POLE, sort, 0, one(sort), sample(sort, -1));
        x.feed(0, b);
        x.coefficient(0, 1, one(sort));
        return x.of(0, a);
    }

    /** What a PASS takes off of a, which is b: its w. */
    private static long difference(int sort, long a, long b) {
        Bench x = alone(PASS, sort, 0);
        x.feed(0, b);
        x.coefficient(0, 0, one(sort));
        x.feed(0, a);
        return x.state(0, 0);
    }

    private static void halfWay(Check t) {
        double[][] sums = {{1, 0x1p-53}, {1, 0x1p-53 + 0x1p-105}, {1, 0x1p-53 - 0x1p-106}, {1, -0x1p-54},
            {1, -0x1p-54 - 0x1p-106}, {1, -0x1p-54 + 0x1p-107}, {1 + 0x1p-52, 0x1p-53}, {1 + 0x1p-52, 0x1p-53 - 0x1p-106},
            {1, 0x1p-60}, {1, -0x1p-60}, {1, 0x1p-1074}, {1, -0x1p-1074}, {1 + 0x1p-52, -1}, {1, -1}, {2, -0x1p-53},
            {0x1p970, Double.MAX_VALUE}, {3, 0x1p-61}, {3, 0x1p-62}, {3, 0x1p-63}};
        for (double[] p : sums) {
            t.due(p[0] + " and " + p[1], sum(DOUBLE, d(p[0]), d(p[1])), d(p[0] + p[1]));
            t.due(p[1] + " and " + p[0], sum(DOUBLE, d(p[1]), d(p[0])), d(p[1] + p[0]));
            t.due(p[0] + " less " + p[1], difference(DOUBLE, d(p[0]), d(p[1])), d(p[0] - p[1]));
            float a = (float) p[0];
            float b = (float) p[1];
            t.due(a + " and " + b + " of FLOAT", sum(FLOAT, f(a), f(b)), f(a + b));
        }
        double even = 1 + 0x1p-30 + 0x1p-51;
        double[][] products = {{even, 1 + 0x1p-23}, {1 + 0x1p-30, 1 + 0x1p-23}, {1 + 0x1p-30 - 0x1p-51, 1 + 0x1p-23},
            {1 + 0x1p-52, 1 + 0x1p-52}, {1 - 0x1p-53, 1 - 0x1p-53}, {1 - 0x1p-53, 1 + 0x1p-52}, {1 + 0x1p-27, 1 + 0x1p-26},
            {1.5, 1 + 0x1p-52}, {1.5, 1 + 3 * 0x1p-52}, {0x1p53 - 1, 0x1p53 - 1}, {3, 1 / 3.0}};
        for (double[] p : products) {
            t.due(p[0] + " by " + p[1], product(DOUBLE, d(p[0]), d(p[1])), d(p[0] * p[1]));
            t.due(p[1] + " by " + -p[0], product(DOUBLE, d(p[1]), d(-p[0])), d(p[1] * -p[0]));
        }
        t.due("half way and a bit, to the even one below", product(DOUBLE, d(even), d(1 + 0x1p-23)),
                d(1 + 0x1p-23 + 0x1p-30 + 0x1p-51 + 0x1p-52));
        float[][] few = {{1 + 0x1p-12f, 1 + 0x1p-12f}, {1 + 0x1p-23f, 1 + 0x1p-23f}, {1.5f, 1 + 0x1p-23f}, {1.5f, 1 + 3 * 0x1p-23f},
            {1 - 0x1p-24f, 1 - 0x1p-24f}, {0x1p24f - 1, 0x1p24f - 1}, {3, 1 / 3f}};
        for (float[] p : few) {
            t.due(p[0] + " by " + p[1], product(FLOAT, f(p[0]), f(p[1])), f(p[0] * p[1]));
        }
    }

    private static void farBelow(Check t) {
        for (int k = 0; k <= 130; k++) {
            double small = Math.scalb(1.5, -k);
            t.due("the least by 1.5 * 2 ^ -" + k, product(DOUBLE, 1, d(small)), d(Double.MIN_VALUE * small));
            t.due("2 ^ -1000 by it", product(DOUBLE, d(0x1p-1000), d(small)), d(0x1p-1000 * small));
            float few = Math.scalb(1.5f, -k);
            t.due("the least float by it", product(FLOAT, 1, f(few)), f(Float.MIN_VALUE * few));
            t.due("2 ^ -100 by it", product(FLOAT, f(0x1p-100), f(few)), f(0x1p-100f * few));
        }
        t.due("the least by itself", product(DOUBLE, 1, 1), 0);
        t.due("the least by itself below 0", product(DOUBLE, 1, Long.MIN_VALUE + 1), d(-0.0));
        t.due("the least by itself of FLOAT", product(FLOAT, 1, 1), 0);
    }

    private static void doublePairs(Check t) {
        double[] sizes = {0, Double.MIN_VALUE, Double.MIN_NORMAL, Math.nextDown(Double.MIN_NORMAL), 0.5, Math.nextDown(1.0), 1,
            Math.nextUp(1.0), 0x1p53, 0x1p1023, Double.MAX_VALUE, Double.POSITIVE_INFINITY, Double.NaN};
        for (double one : sizes) {
            for (double other : sizes) {
                for (int signs = 0; signs < 4; signs++) {
                    double a = signs % 2 == 0 ? one : -one;
                    double b = signs < 2 ? other : -other;
                    t.due(a + " by " + b, product(DOUBLE, d(a), d(b)), d(a * b));
                    t.due(a + " and " + b, sum(DOUBLE, d(a), d(b)), d(a + b));
                    t.due(a + " less " + b, difference(DOUBLE, d(a), d(b)), d(a - b));
                }
            }
        }
    }

    private static void floatPairs(Check t) {
        float[] sizes = {0, Float.MIN_VALUE, Float.MIN_NORMAL, Math.nextDown(Float.MIN_NORMAL), 0.5f, Math.nextDown(1f), 1,
            Math.nextUp(1f), 0x1p24f, 0x1p127f, Float.MAX_VALUE, Float.POSITIVE_INFINITY, Float.NaN};
        for (float one : sizes) {
            for (float other : sizes) {
                for (int signs = 0; signs < 4; signs++) {
                    float a = signs % 2 == 0 ? one : -one;
                    float b = signs < 2 ? other : -other;
                    t.due(a + " by " + b, product(FLOAT, f(a), f(b)), f(a * b));
                    t.due(a + " and " + b, sum(FLOAT, f(a), f(b)), f(a + b));
                    t.due(a + " less " + b, difference(FLOAT, f(a), f(b)), f(a - b));
                }
            }
        }
    }

    private static void sixteenThousands(Check t) {
        Bench x = alone(GAIN, FIXED, 0, 16384);
        t.due("16384 is 1", x.of(0, 32767), 32767);
        t.due("16384 is 1", x.of(0, -32768), -32768);
        x.coefficient(0, 0, 16383);
        t.due("16383 is less", x.of(0, 32767), 32765);
        x.coefficient(0, 0, 16385);
        t.due("16385 is more", x.of(0, 16384), 16385);
        x.coefficient(0, 0, -32768);
        t.due("-32768 is -2", x.of(0, -16383), 32766);
        x.coefficient(0, 0, 32767);
        t.due("32767 is not 2", x.of(0, 16383), 32765);
    }

    private static void floatBits(Check t) {
        Bench x = alone(DELAY, FLOAT, 1);
        x.put(0, GAIN, FLOAT, 0, f(-1));
        x.feedAll(0, f(1), 0x80000000 | 5, GREATEST & 0x7f7fffff);
        t.due("-0.0 of 0", x.output(0, 0), -0x80000000L);
        t.due("-1", x.output(0, 1), 0xbf800000);
        t.due("above 0", x.output(0, 2), 5);
        t.due("the state", x.state(0, 0), 0x7f7fffff);
        x.feed(0, -0x80000000L);
        t.due("a state with a sign", x.state(0, 0), -0x80000000L);
        x.coefficient(1, 0, -1082130432L);
        t.due("a coefficient with a sign", x.told(1, 0), -1082130432L);
    }

    private static void doubleNan(Check t) {
        Bench x = alone(DELAY, DOUBLE, 1);
        int gain = x.section(GAIN, DOUBLE, 0);
        long[] bits = {INFINITY, INFINITY + 1, INFINITY - 1, GREATEST * (1L << 32) + 0xffffffffL, NAN, NAN + 1, -1,
            Long.MIN_VALUE | INFINITY, (Long.MIN_VALUE | INFINITY) + 1, (Long.MIN_VALUE | INFINITY) - 1, Long.MIN_VALUE};
        for (long b : bits) {
            long due = Double.doubleToLongBits(Double.longBitsToDouble(b));
            x.feed(0, b);
            t.due("a state of " + Long.toHexString(b), x.state(0, 0), due);
            x.coefficient(gain, 0, b);
            t.due("a coefficient of " + Long.toHexString(b), x.told(gain, 0), due);
        }
        t.due("infinity is a number", Double.doubleToLongBits(Double.longBitsToDouble(INFINITY)), INFINITY);
        x.feed(0, INFINITY + 1);
        x.feed(0, 0);
        t.due("an output", x.last(0), NAN);
    }

    private static void floatNan(Check t) {
        Bench x = alone(DELAY, FLOAT, 1);
        int gain = x.section(GAIN, FLOAT, 0);
        int[] bits = {(int) FLOAT_INFINITY, (int) FLOAT_INFINITY + 1, (int) FLOAT_INFINITY - 1, GREATEST, (int) FLOAT_NAN,
            -1, LEAST | (int) FLOAT_INFINITY, (LEAST | (int) FLOAT_INFINITY) + 1, (LEAST | (int) FLOAT_INFINITY) - 1, LEAST};
        for (int b : bits) {
            long due = Float.floatToIntBits(Float.intBitsToFloat(b));
            x.feed(0, b);
            t.due("a state of " + Integer.toHexString(b), x.state(0, 0), due);
            x.coefficient(gain, 0, b);
            t.due("a coefficient of " + Integer.toHexString(b), x.told(gain, 0), due);
        }
        x.feed(0, FLOAT_INFINITY + 1);
        x.feed(0, 0);
        t.due("an output", x.last(0), FLOAT_NAN);
    }

    private static void madeNan(Check t) {
        int[] sorts = {DOUBLE, FLOAT};
        for (int sort : sorts) {
            long nan = sort == DOUBLE ? NAN : FLOAT_NAN;
            long infinity = sort == DOUBLE ? INFINITY : FLOAT_INFINITY;
            long below = sort == DOUBLE ? d(Double.NEGATIVE_INFINITY) : f(Float.NEGATIVE_INFINITY);
            Bench x = alone(POLE, sort, 0, one(sort), one(sort));
            t.due("infinity", x.of(0, infinity), infinity);
            t.due("infinity and infinity", x.of(0, infinity), infinity);
            t.due("infinity less infinity", x.of(0, below), nan);
            t.due("its state", x.state(0, 0), nan);
            Bench y = alone(GAIN, sort, 0, infinity);
            t.due("infinity by the least", y.of(0, 1), infinity);
            t.due("infinity by 0", y.of(0, 0), nan);
            t.due("infinity by -1", y.of(0, sample(sort, -1)), below);
        }
    }

    private static void fromTheLeft(Check t) {
        Bench x = alone(DIRECT, DOUBLE, 0, d(1), d(1), d(1));
        x.feedAll(0, d(1), d(1));
        t.due("1e16 and 1 and 1", x.of(0, d(1e16)), d(1e16));
        Bench y = alone(DIRECT, DOUBLE, 0, d(1), d(1), d(1));
        y.feedAll(0, d(1e16), d(1));
        t.due("1 and 1 and 1e16", y.of(0, d(1)), d(1e16 + 2));
        Bench z = alone(DIRECT, FLOAT, 0, f(1), f(1), f(1));
        z.feedAll(0, f(1), f(1));
        t.due("2 ^ 24 and 1 and 1", z.of(0, f(0x1p24)), f(0x1p24));
        Bench w = alone(DIRECT, FLOAT, 0, f(1), f(1), f(1));
        w.feedAll(0, f(0x1p24), f(1));
        t.due("1 and 1 and 2 ^ 24", w.of(0, f(1)), f(0x1p24 + 2));
        Bench v = alone(DIRECT, DOUBLE, 0, d(1), d(0), d(0), d(1), d(1));
        v.feedAll(0, d(1e16));
        t.due("what is taken off, one behind the other", v.of(0, d(1)), d(1 - 1e16));
        t.due("1e16 less -1e16 less 1e16", v.of(0, d(1e16)), d(1e16 - (1 - 1e16) - 1e16));
    }

    private static void exactly(Check t) {
        Bench x = fixed(DIRECT, 0, 0, -32768, -32768, -32768);
        x.feedAll(0, -32768, -32768);
        t.due("three times 2 ^ 30, above every int", x.of(0, -32768), 32767);
        Bench y = fixed(DIRECT, 0, 0, -32768, -32768, -32768);
        y.feedAll(0, 32767, 32767);
        t.due("below every int", y.of(0, 32767), -32768);
        Bench z = fixed(DIRECT, 1, 0, 8191, 8191, 2, 0, 0);
        z.feedAll(0, 1, 1);
        t.due("8191 + 8191 are no whole", z.last(0), 0);
        t.due("8191 + 8191 + 2 are one", z.of(0, 1), 1);
        z.coefficient(0, 2, 1);
        t.due("8191 + 8191 + 1 are none", z.of(0, 1), 0);
        Bench w = fixed(DIRECT, 0, 0, 0, 0, 0, -32768, -32768);
        w.coefficient(0, 0, WHOLE);
        w.feed(0, 32767);
        w.coefficient(0, 0, 0);
        t.due("what is taken off of the least short", w.of(0, 0), 32767);
    }

    /** A GAIN of one 16384th makes, of each sample, the one that is due. */
    private static void wholes(Check t, int rounding, long[] in, long[] due) {
        for (int i = 0; i < in.length; i++) {
            t.due(in[i] + " 16384ths", fixed(GAIN, rounding, 0, 1).of(0, in[i]), due[i]);
        }
    }

    private static void roundingNearest(Check t) {
        wholes(t, 0, raw(0, 8191, 8192, 8193, 16384, 24575, 24576, 24577, 32767), raw(0, 0, 1, 1, 1, 1, 2, 2, 2));
        wholes(t, 0, raw(-1, -8191, -8192, -8193, -16384, -24575, -24576, -24577, -32768),
                raw(0, 0, 0, -1, -1, -1, -1, -2, -2));
    }

    private static void roundingTowardsZero(Check t) {
        wholes(t, 1, raw(0, 8192, 16383, 16384, 16385, 32767), raw(0, 0, 0, 1, 1, 1));
        wholes(t, 1, raw(-1, -8192, -8193, -16383, -16384, -16385, -32767, -32768), raw(0, 0, 0, 0, -1, -1, -1, -2));
    }

    private static void roundingRest(Check t) {
        makes(t, "up to a whole", fixed(GAIN, 2, 0, 1), raw(16383, 1, 16383, 1), raw(0, 1, 0, 1));
        makes(t, "one less", fixed(GAIN, 2, 0, 1), raw(16383, 0, 1), raw(0, 0, 1));
        makes(t, "down to a whole", fixed(GAIN, 2, 0, 1), raw(-16383, -1, -16383, -1), raw(0, -1, 0, -1));
        makes(t, "a rest above 0, a sum below", fixed(GAIN, 2, 0, 1), raw(16383, -32767, -16384), raw(0, -1, -1));
        makes(t, "a rest below 0, a sum above", fixed(GAIN, 2, 0, 1), raw(-1, 16384, 1), raw(0, 0, 1));
        makes(t, "more than a whole", fixed(GAIN, 2, 0, 1), raw(16383, 16385), raw(0, 2));
    }

    private static void lost(Check t) {
        long[] in = {1, 16383, 16384, 16385, 32767, -1, -16383, -16384, -16385, -32767, -32768};
        long[] due = {1, 16383, 0, 1, 16383, -1, -16383, 0, -1, -16383, 0};
        for (int i = 0; i < in.length; i++) {
            Bench x = fixed(GAIN, 2, 0, 1);
            x.feed(0, in[i]);
            t.due("the rest of " + in[i], x.state(0, 100), due[i]);
        }
        Bench y = fixed(GAIN, 2, 0, 1);
        y.feedAll(0, 16383, -32767);
        t.due("what both lost", y.state(0, 100), 0);
        y.feedAll(0, 16383, 2);
        t.due("what is above a whole", y.state(0, 100), 1);
        y.feed(0, -3);
        t.due("a rest that goes below 0", y.state(0, 100), -2);
    }

    private static void restUntouched(Check t) {
        for (int rounding = 0; rounding < 2; rounding++) {
            Bench x = fixed(GAIN, 2, 0, 1);
            x.feed(0, 10000);
            x.rule(0, rounding, 0);
            t.due("not added", x.of(0, 8191), 0);
            t.due("not added", x.of(0, 16383), 1 - rounding);
            t.due("not changed", x.state(0, 100), 10000);
            x.rule(0, 2, 0);
            t.due("there again", x.of(0, 6384), 1);
            t.due("used up", x.state(0, 100), 0);
        }
    }

    /** A POLE that adds, which made the one and then gets the other. */
    private static Bench added(int limit, long first, long second) {
        Bench x = fixed(POLE, 0, limit, WHOLE, WHOLE);
        x.feedAll(0, first, second);
        return x;
    }

    private static void overs(Check t) {
        for (int limit = 0; limit < 2; limit++) {
            t.due("32767", added(limit, 32766, 1).about(0, 5), 0);
            t.due("32768", added(limit, 32766, 2).about(0, 5), 1);
            t.due("65534", added(limit, 32767, 32767).about(0, 5), 1);
            t.due("-32768", added(limit, -32767, -1).about(0, 5), 0);
            t.due("-32769", added(limit, -32767, -2).about(0, 5), 1);
            t.due("-65536", added(limit, -32768, -32768).about(0, 5), 1);
        }
    }

    /** A POLE that made the first, and then adds half of the second. */
    private static Bench halved(int rounding, long first, long second) {
        Bench x = fixed(POLE, rounding, 1, WHOLE, WHOLE);
        x.feed(0, first);
        x.coefficient(0, 0, 8192);
        x.feed(0, second);
        return x;
    }

    private static void oversRounded(Check t) {
        t.due("32767 and a half, upwards", halved(0, 32767, 1).last(0), -32768);
        t.due("an over", halved(0, 32767, 1).about(0, 5), 1);
        t.due("-32768 less a half, upwards", halved(0, -32768, -1).last(0), -32768);
        t.due("no over", halved(0, -32768, -1).about(0, 5), 0);
        for (int rounding = 1; rounding < 3; rounding++) {
            t.due("32767 and a half, towards 0", halved(rounding, 32767, 1).last(0), 32767);
            t.due("no over", halved(rounding, 32767, 1).about(0, 5), 0);
            t.due("32767 and two halves", halved(rounding, 32767, 2).last(0), -32768);
            t.due("an over", halved(rounding, 32767, 2).about(0, 5), 1);
            t.due("-32768 less a half, towards 0", halved(rounding, -32768, -1).last(0), -32768);
            t.due("no over", halved(rounding, -32768, -1).about(0, 5), 0);
            t.due("-32768 less two halves", halved(rounding, -32768, -2).last(0), 32767);
            t.due("an over", halved(rounding, -32768, -2).about(0, 5), 1);
        }
        Bench x = halved(2, 32767, 1);
        t.due("the rest makes it an over", x.of(0, 1), -32768);
        t.due("an over", x.about(0, 5), 1);
    }

    private static void limitNearest(Check t) {
        t.due("32767", added(0, 32766, 1).last(0), 32767);
        t.due("32768", added(0, 32766, 2).last(0), 32767);
        t.due("65534", added(0, 32767, 32767).last(0), 32767);
        t.due("-32768", added(0, -32767, -1).last(0), -32768);
        t.due("-32769", added(0, -32767, -2).last(0), -32768);
        t.due("-65536", added(0, -32768, -32768).last(0), -32768);
        t.due("65536", fixed(GAIN, 0, 0, -32768).of(0, -32768), 32767);
    }

    private static void limitBits(Check t) {
        t.due("32767", added(1, 32766, 1).last(0), 32767);
        t.due("32768", added(1, 32766, 2).last(0), -32768);
        t.due("32769", added(1, 32766, 3).last(0), -32767);
        t.due("65534", added(1, 32767, 32767).last(0), -2);
        t.due("-32768", added(1, -32767, -1).last(0), -32768);
        t.due("-32769", added(1, -32767, -2).last(0), 32767);
        t.due("-65536", added(1, -32768, -32768).last(0), 0);
        t.due("65536", fixed(GAIN, 0, 1, -32768).of(0, -32768), 0);
        t.due("65534, by -2", fixed(GAIN, 0, 1, -32768).of(0, -32767), -2);
        Bench x = fixed(DIRECT, 0, 1, -32768, -32768, -32768);
        x.feedAll(0, -32767, -32767);
        t.due("196602, three times round", x.of(0, -32767), -6);
    }

    private static void restAtOver(Check t) {
        long[] in = {32767, -32767, 16385};
        long[] cut = {32767, -32768, 32767};
        long[] low = {-4, 4, -32768};
        long[] rests = {1, -1, 16383};
        for (int i = 0; i < in.length; i++) {
            for (int limit = 0; limit < 2; limit++) {
                Bench x = fixed(GAIN, 2, limit, 32767);
                t.due(in[i] + " by limit " + limit, x.of(0, in[i]), limit == 0 ? cut[i] : low[i]);
                t.due("the rest of " + in[i], x.state(0, 100), rests[i]);
            }
        }
    }
}
