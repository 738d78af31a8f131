import java.util.Random;

/** Products, sums, quotients and conversions of FilterBench against those of the machine, bit by bit. */
public final class ArithmeticTest {
    private static final int PAIRS = 400_000;
    /** An object is used for 512 calls at most. */
    private static final int PAIRS_AN_OBJECT = 25;
    private static final long ONE = Double.doubleToLongBits(1.0);
    private static final long FLOAT_ONE = Float.floatToIntBits(1.0f);

    private static final Random RANDOM = new Random(20261119);

    public static void main(String[] args) {
        doubles(new Check("products and sums of doubles"));
        floats(new Check("products and sums of floats"));
        ratios(new Check("quotients"));
        conversions(new Check("conversions"));
        Check.end();
    }

    // ---- values: at the edges, near one another, and any ----

    private static long anyDouble() {
        long sign = RANDOM.nextBoolean() ? Long.MIN_VALUE : 0;
        switch (RANDOM.nextInt(8)) {
            case 0: return RANDOM.nextLong();
            case 1: return sign | RANDOM.nextInt(4);
            case 2: return sign | (RANDOM.nextLong() & 0x001fffffffffffffL);
            case 3: return sign | 0x7fe0000000000000L | (RANDOM.nextLong() & 0x1fffffffffffffL);
            case 4: return sign | (0x3ffL + RANDOM.nextInt(5) - 2 << 52) | (RANDOM.nextInt(4) - 2 & 0xfffffffffffffL);
            case 5: return sign | (0x3ffL + RANDOM.nextInt(130) - 65 << 52) | (RANDOM.nextLong() & 0xfffffffffffffL);
            case 6: return sign | ((long) RANDOM.nextInt(2047) << 52) | (1L << RANDOM.nextInt(52)) - RANDOM.nextInt(2);
            default: return Double.doubleToLongBits(RANDOM.nextGaussian());
        }
    }

    private static long anyFloat() {
        int sign = RANDOM.nextBoolean() ? Integer.MIN_VALUE : 0;
        switch (RANDOM.nextInt(8)) {
            case 0: return RANDOM.nextInt();
            case 1: return sign | RANDOM.nextInt(4);
            case 2: return sign | (RANDOM.nextInt() & 0x00ffffff);
            case 3: return sign | 0x7f000000 | (RANDOM.nextInt() & 0xffffff);
            case 4: return sign | (0x7f + RANDOM.nextInt(5) - 2 << 23) | (RANDOM.nextInt(4) - 2 & 0x7fffff);
            case 5: return sign | (0x7f + RANDOM.nextInt(70) - 35 << 23) | (RANDOM.nextInt() & 0x7fffff);
            case 6: return sign | (RANDOM.nextInt(255) << 23) | (1 << RANDOM.nextInt(23)) - RANDOM.nextInt(2);
            default: return Float.floatToIntBits((float) RANDOM.nextGaussian());
        }
    }

    /** Near the first one half of the time: so that sums cancel, and products are near the ends. */
    private static long beside(long bits, boolean wide) {
        long step = RANDOM.nextInt(9) - 4 + ((long) RANDOM.nextInt(7) - 3 << (wide ? 52 : 23));
        long sign = wide ? Long.MIN_VALUE : 0xffffffff80000000L;
        long size = bits & ~sign;
        long moved = size + step;
        boolean fits = moved >= 0 && (wide || moved <= Integer.MAX_VALUE);
        return (fits ? moved : size) | (RANDOM.nextBoolean() ? sign : 0);
    }

    private static double d(long bits) {
        return Double.longBitsToDouble(bits);
    }

    private static float f(long bits) {
        return Float.intBitsToFloat((int) bits);
    }

    // ---- the tests ----

    private static void doubles(Check check) {
        for (int i = 0; i < PAIRS && !check.failed(); i += PAIRS_AN_OBJECT) {
            FilterBench x = bench(0);
            for (int j = 0; j < PAIRS_AN_OBJECT; j++) {
                long a = anyDouble();
                long b = RANDOM.nextBoolean() ? beside(a, true) : anyDouble();
                String pair = Long.toHexString(a) + " and " + Long.toHexString(b);
                long sum = Double.doubleToLongBits(1.0 * d(b) + 1.0 * (d(a) * 1.0 + 0.0 * 0.0));
                check.due("product of " + pair, product(x, a, b), Double.doubleToLongBits(d(a) * d(b)));
                check.due("sum of " + pair, sum(x, a, b, ONE), sum);
                check.due("difference of " + pair, difference(x, a, b, ONE), Double.doubleToLongBits(d(b) - 1.0 * d(a)));
            }
        }
        check.close();
    }

    private static void floats(Check check) {
        for (int i = 0; i < PAIRS && !check.failed(); i += PAIRS_AN_OBJECT) {
            FilterBench x = bench(1);
            for (int j = 0; j < PAIRS_AN_OBJECT; j++) {
                long a = anyFloat();
                long b = RANDOM.nextBoolean() ? beside(a, false) : anyFloat();
                String pair = Integer.toHexString((int) a) + " and " + Integer.toHexString((int) b);
                long sum = Float.floatToIntBits(1.0f * f(b) + 1.0f * (f(a) * 1.0f + 0.0f * 0.0f));
                check.due("product of " + pair, product(x, a, b), Float.floatToIntBits(f(a) * f(b)));
                check.due("sum of " + pair, sum(x, a, b, FLOAT_ONE), sum);
                check.due("difference of " + pair, difference(x, a, b, FLOAT_ONE), Float.floatToIntBits(f(b) - 1.0f * f(a)));
            }
        }
        check.close();
    }

    /** A GAIN, a POLE and a PASS, each in a chain of its own. */
    private static FilterBench bench(int sort) {
        FilterBench x = new FilterBench();
        int[] kinds = {0, 1, 5};
        for (int i = 0; i < kinds.length; i++) {
            x.section(kinds[i], sort, 0);
            x.chain();
            x.add(i, i);
        }
        return x;
    }

    private static long product(FilterBench x, long a, long b) {
        x.coefficient(0, 0, a);
        x.feed(0, b);
        return x.output(0, x.chain(0, 2) - 1);
    }

    private static long sum(FilterBench x, long a, long b, long one) {
        x.reset(1);
        x.coefficient(1, 0, one);
        x.coefficient(1, 1, 0);
        x.feed(1, a);
        x.coefficient(1, 1, one);
        x.feed(1, b);
        return x.output(1, 1);
    }

    private static long difference(FilterBench x, long a, long b, long one) {
        x.reset(2);
        x.coefficient(2, 0, 0);
        x.feed(2, a);
        x.coefficient(2, 0, one);
        x.feed(2, b);
        return x.state(2, 0);
    }

    private static void ratios(Check check) {
        for (int i = 0; i < PAIRS / 2 && !check.failed(); i += 100) {
            FilterBench x = new FilterBench();
            x.section(0, 0, 0);
            x.section(0, 1, 0);
            for (int j = 0; j < 100; j++) {
                int num = anyInt();
                int den = anyInt();
                boolean due = den != 0;
                check.due("ratio " + num + "/" + den, x.ratio(0, 0, num, den) ? 1 : 0, due ? 1 : 0);
                x.ratio(1, 0, num, den);
                if (due) {
                    check.due("double " + num + "/" + den, x.told(0, 0), Double.doubleToLongBits((double) num / den));
                    check.due("float " + num + "/" + den, x.told(1, 0), Float.floatToIntBits((float) ((double) num / den)));
                }
            }
        }
        check.close();
    }

    private static int anyInt() {
        switch (RANDOM.nextInt(4)) {
            case 0: return RANDOM.nextInt();
            case 1: return RANDOM.nextInt(21) - 10;
            case 2: return (1 << RANDOM.nextInt(32)) + RANDOM.nextInt(3) - 1;
            default: return RANDOM.nextInt() >> RANDOM.nextInt(32);
        }
    }

    private static void conversions(Check check) {
        for (int i = 0; i < PAIRS / 4 && !check.failed(); i++) {
            FilterBench x = new FilterBench();
            int sort = RANDOM.nextInt(3);
            boolean whole = RANDOM.nextBoolean();
            x.section(whole ? 9 : 0, sort, 0);
            x.chain();
            x.add(0, 0);
            long bits = sort == 0 ? RANDOM.nextInt(3) > 0 ? nearShorts(whole) : anyDouble()
                    : sort == 1 ? RANDOM.nextInt(3) > 0 ? Float.floatToIntBits((float) d(nearShorts(whole))) : anyFloat()
                    : (short) RANDOM.nextInt();
            x.coefficient(0, 0, bits);
            double meant = sort == 0 ? d(bits) : sort == 1 ? f(bits) : bits / (whole ? 1.0 : 16384.0);
            double near = Math.rint(whole ? meant : meant * 16384);
            boolean isShort = near >= -32768 && near <= 32767;
            String what = Long.toHexString(bits) + " of " + sort + (whole ? " whole" : "") + " to ";
            check.due(what + 0, x.convert(0, 0), 1);
            check.due(what + 0 + ", bits", x.told(1, 0), Double.doubleToLongBits(meant));
            check.due(what + 1, x.convert(0, 1), 2);
            check.due(what + 1 + ", bits", x.told(2, 0), Float.floatToIntBits((float) meant));
            check.due(what + 2, x.convert(0, 2), isShort ? 3 : FilterBench.NONE);
            check.due(what + 2 + ", bits", x.told(3, 0), isShort ? (long) near : 0);
        }
        check.close();
    }

    private static long nearShorts(boolean whole) {
        double halves = (RANDOM.nextInt(140000) - 70000) / 2.0;
        double scaled = whole ? halves : halves / 16384;
        return Double.doubleToLongBits(scaled) + RANDOM.nextInt(3) - 1;
    }
}
