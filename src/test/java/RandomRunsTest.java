import java.util.Random;

/** Long runs of calls, drawn from fixed seeds: FilterBench answers each as PlainBench does. */
public final class RandomRunsTest {
    /** One turn makes no more calls than these. */
    private static final int MOST_AT_A_TURN = 8;
    private static final long[] DOUBLES = {
        0L, Long.MIN_VALUE, 1L, Long.MIN_VALUE + 1, 0x000fffffffffffffL, 0x0010000000000000L, 0x7fefffffffffffffL,
        0xffefffffffffffffL, 0x7ff0000000000000L, 0xfff0000000000000L, 0x7ff8000000000000L, 0xfff8000000000123L,
        0x7ff0000000000001L, 0x3ff0000000000000L, 0xbff0000000000000L, 0x3fefffffffffffffL, 0x3ff0000000000001L,
        0x4000000000000000L, 0xc000000000000000L, 0x3fe0000000000000L, 0xbfe0000000000000L, 0x7fe0000000000000L,
        0x1ff0000000000000L, 0x2000000000000001L, 0x5ff0000000000000L};
    private static final int[] SHORTS = {0, 1, -1, 2, -2, 8191, 8192, 8193, 16383, 16384, 16385, -16384, -16383, -8192,
        32767, -32768, -32767, 100, -100, 24576};

    private final Random random;
    private final Check check;
    private final Bench bench = new Bench();
    private final PlainBench plain = new PlainBench();
    /** How likely a call with wrong arguments is, and values at the edges. */
    private final double wild;
    private final int sortBias;

    private RandomRunsTest(long seed, Check check) {
        random = new Random(seed);
        this.check = check;
        wild = random.nextInt(3) == 0 ? 0.3 : 0.04;
        sortBias = random.nextInt(4);
    }

    public static void main(String[] args) {
        int runs = args.length > 0 ? Integer.parseInt(args[0]) : 1500;
        Check check = new Check("random runs");
        for (int i = 0; i < runs && !check.failed(); i++) {
            new RandomRunsTest(i, check).go(i);
        }
        check.close();
        Check.end();
    }

    private void go(int run) {
        try {
            if (random.nextInt(3) > 0) {
                furnish();
            }
            while (bench.calls() + MOST_AT_A_TURN <= Bench.MOST_CALLS && !check.failed()) {
                turn();
            }
        } catch (RuntimeException e) {
            e.printStackTrace(System.out);
            check.fail("threw " + e);
        }
        if (check.failed()) {
            check.fail("that was run " + run);
        }
    }

    private boolean chance(double p) {
        return random.nextDouble() < p;
    }

    private int drawn(int count) {
        if (chance(wild)) {
            return new int[] {-1, count, count + 1, -100, Integer.MAX_VALUE, Integer.MIN_VALUE, 100}[random.nextInt(7)];
        }
        return count <= 0 ? 0 : random.nextInt(count);
    }

    private int drawnSort() {
        return sortBias < 3 && !chance(wild) ? sortBias : drawn(3);
    }

    private long drawnBits(int sort) {
        if (chance(wild / 4)) {
            return new long[] {32768, -32769, 1L << 31, -(1L << 31) - 1, 1L << 40, Long.MIN_VALUE}[random.nextInt(6)];
        }
        if (sort == 0) {
            return chance(wild) ? DOUBLES[random.nextInt(DOUBLES.length)]
                    : chance(wild) ? random.nextLong() : Double.doubleToLongBits(drawnNear());
        }
        if (sort == 1) {
            return chance(wild) ? Float.floatToRawIntBits((float) Double.longBitsToDouble(DOUBLES[random.nextInt(DOUBLES.length)]))
                    : chance(wild) ? random.nextInt() : Float.floatToIntBits((float) drawnNear());
        }
        return chance(0.3) ? SHORTS[random.nextInt(SHORTS.length)] : (short) random.nextInt();
    }

    private double drawnNear() {
        switch (random.nextInt(4)) {
            case 0: return random.nextInt(9) / 4.0 - 1;
            case 1: return random.nextInt(65536) / 16384.0 - 2;
            case 2: return random.nextInt(400) / 8.0 - 25;
            default: return random.nextGaussian();
        }
    }

    private int sortOfSection(int s) {
        return Math.max(0, plain.about(s, 1));
    }

    private int sortOfChain(int c) {
        return Math.max(0, plain.chain(c, 4));
    }

    private int drawnLength(int kind) {
        return chance(wild) ? random.nextInt(70) - 2
                : kind >= 12 && kind <= 14 ? 2 + random.nextInt(chance(0.8) ? 2 : 7) : 1 + random.nextInt(chance(0.7) ? 5 : 64);
    }

    /** Some chains, one within the other, made without a wrong call. */
    private void furnish() {
        int chains = 1 + random.nextInt(6);
        for (int c = 0; c < chains; c++) {
            due("chain()", bench.chain(), plain.chain());
            int size = 1 + random.nextInt(5);
            for (int i = 0; i < size; i++) {
                int kind = chance(0.3) ? 15 : random.nextInt(chance(0.7) ? 12 : 16);
                int s = section(kind, drawnSort(), drawnLength(kind));
                factors(s);
                add(c, s);
                if (kind == 15 && c > 0) {
                    within(s, random.nextInt(c));
                }
            }
            if (chance(0.5)) {
                loop(c);
            }
        }
    }

    private void factors(int s) {
        for (int k = 0; s >= 0 && k < PlainBench.FACTORS[plain.about(s, 0)]; k++) {
            coefficient(s, k, drawnBits(sortOfSection(s)));
        }
        if (s >= 0 && sortOfSection(s) == 2) {
            rule(s, random.nextInt(3), random.nextInt(2));
        }
    }

    private void turn() {
        int s = drawn(plain.count(0));
        int c = drawn(plain.count(1));
        switch (random.nextInt(30)) {
            case 0: {
                int kind = drawn(16);
                int made = section(kind, drawnSort(), drawnLength(kind));
                if (made >= 0 && chance(0.7)) {
                    add(c, made);
                }
                return;
            }
            case 1:
            case 2: coefficient(s, drawn(5), drawnBits(sortOfSection(s))); return;
            case 3: ratio(s); return;
            case 4: rule(s, drawn(3), drawn(2)); return;
            case 5:
                if (chance(0.3)) {
                    due("chain()", bench.chain(), plain.chain());
                }
                return;
            case 6: add(c, s); return;
            case 7: loop(c); return;
            case 8:
            case 9: within(s, c); return;
            case 10:
            case 11:
            case 12: feed(c, drawnBits(sortOfChain(c))); return;
            case 13:
            case 14: run(c); return;
            case 15:
                if (chance(0.3)) {
                    due("reset " + c, bench.reset(c), plain.reset(c));
                }
                return;
            case 16:
                if (chance(0.4)) {
                    due("keep " + c, bench.keep(c), plain.keep(c));
                }
                return;
            case 17: {
                int k = drawn(plain.count(2));
                due("back " + k, bench.back(k), plain.back(k));
                return;
            }
            case 18: {
                int k = drawn(plain.count(2));
                due("same " + k, bench.same(k), plain.same(k));
                return;
            }
            case 19: due("poles " + s, bench.poles(s), plain.poles(s)); return;
            case 20:
                if (chance(0.1)) {
                    cycles(s);
                }
                return;
            case 21:
                if (chance(0.4)) {
                    int sort = drawn(3);
                    due("convert " + c + " " + sort, bench.convert(c, sort), plain.convert(c, sort));
                }
                return;
            case 22: {
                int what = drawn(3);
                due("measure " + c + " " + what, bench.measure(c, what), plain.measure(c, what));
                return;
            }
            case 23: {
                int what = drawn(3);
                due("count " + what, bench.count(what), plain.count(what));
                return;
            }
            default: look(s, c);
        }
    }

    private void look(int s, int c) {
        int k = chance(0.1) ? 100 : drawn(chance(0.7) ? 4 : 64);
        due("state " + s + " " + k, bench.state(s, k), plain.state(s, k));
        int what = drawn(10);
        due("about " + s + " " + what, bench.about(s, what), plain.about(s, what));
        due("told " + s + " " + k, bench.told(s, k), plain.told(s, k));
        int which = drawn(5);
        due("chain " + c + " " + which, bench.chain(c, which), plain.chain(c, which));
        int made = Math.max(0, plain.chain(c, 2));
        int i = chance(0.5) ? drawn(made) : made - 1 - random.nextInt(4);
        due("output " + c + " " + i, bench.output(c, i), plain.output(c, i));
        due("output, the eldest kept, " + c, bench.output(c, made - 400), plain.output(c, made - 400));
    }

    private int section(int kind, int sort, int length) {
        int got = bench.section(kind, sort, length);
        due("section " + kind + " " + sort + " " + length, got, plain.section(kind, sort, length));
        return got;
    }

    private void coefficient(int s, int k, long bits) {
        due("coefficient " + s + " " + k + " " + bits, bench.coefficient(s, k, bits), plain.coefficient(s, k, bits));
    }

    private void ratio(int s) {
        int k = drawn(5);
        int den = chance(wild) ? new int[] {0, Integer.MIN_VALUE, Integer.MAX_VALUE, -1}[random.nextInt(4)]
                : random.nextInt(200) - 100;
        int num = chance(wild) ? random.nextInt() : random.nextInt(301) - 150;
        due("ratio " + s + " " + k + " " + num + "/" + den, bench.ratio(s, k, num, den), plain.ratio(s, k, num, den));
        due("told " + s + " " + k, bench.told(s, k), plain.told(s, k));
    }

    private void rule(int s, int rounding, int limit) {
        due("rule " + s + " " + rounding + " " + limit, bench.rule(s, rounding, limit), plain.rule(s, rounding, limit));
    }

    private void add(int c, int s) {
        due("add " + c + " " + s, bench.add(c, s), plain.add(c, s));
    }

    private void loop(int c) {
        int size = plain.chain(c, 0);
        int a = drawn(size);
        int b = chance(wild) ? drawn(size) : a + (size > a && a >= 0 ? random.nextInt(size - a) : 0);
        int n = chance(wild) ? random.nextInt(70) - 3 : 1 + random.nextInt(chance(0.8) ? 4 : 64);
        long bits = drawnBits(sortOfChain(c));
        due("loop " + c + " " + a + " " + b + " " + n + " " + bits,
                bench.loop(c, a, b, n, bits), plain.loop(c, a, b, n, bits));
    }

    private void within(int s, int c) {
        due("within " + s + " " + c, bench.within(s, c), plain.within(s, c));
    }

    private void feed(int c, long bits) {
        due("feed " + c + " " + bits, bench.feed(c, bits), plain.feed(c, bits));
    }

    private void run(int c) {
        int n = chance(wild) ? random.nextInt(103) - 1 : 1 + random.nextInt(20);
        int seed = random.nextInt();
        due("run " + c + " " + n + " " + seed, bench.run(c, n, seed), plain.run(c, n, seed));
    }

    private void cycles(int s) {
        int count = plain.cycles(s);
        due("cycles " + s, bench.cycles(s), count);
        int k = drawn(count);
        for (int what = -1; what < 4; what++) {
            due("cycle " + s + " " + k + " " + what, bench.cycle(s, k, what), plain.cycle(s, k, what));
        }
    }

    private void due(String what, long got, long want) {
        check.due(what, got, want);
    }

    private void due(String what, boolean got, boolean want) {
        check.due(what, got ? 1 : 0, want ? 1 : 0);
    }
}
