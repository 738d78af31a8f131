/** The boundary cases of promises 10 to 12 and 24, and of OUTPUT in "Terms" III. */
public final class SampleEdgesTest extends Edges {

    public static void main(String[] args) {
        test("10 feed: how many came out of it", SampleEdgesTest::howMany);
        test("10 feed: no such chain", SampleEdgesTest::feedNone);
        test("10 feed: no section in it", SampleEdgesTest::feedEmpty);
        test("10 feed: within a MIX", SampleEdgesTest::feedWithin);
        test("10 feed: of FIXED the bits are no short", SampleEdgesTest::feedShorts);
        test("10 feed: of FLOAT the bits are no int", SampleEdgesTest::feedInts);
        test("10 feed: of DOUBLE any bits", SampleEdgesTest::feedDoubles);
        test("11 run: n is 1 .. 100", SampleEdgesTest::runLengths);
        test("11 run: NONE likewise", SampleEdgesTest::runNone);
        test("11 run: of FIXED the lowest 16 bits of the seed", SampleEdgesTest::runShorts);
        test("11 run: of others that by 256, exactly", SampleEdgesTest::runOthers);
        test("11 run: the seed that comes next goes round", SampleEdgesTest::runSeeds);
        test("11 run: how many came out", SampleEdgesTest::runHowMany);
        test("12 output: 0 if there is none such", SampleEdgesTest::outputNone);
        test("12 output: the latest 400 are kept", SampleEdgesTest::outputKept);
        test("12 output: far more than 400", SampleEdgesTest::outputFar);
        test("12 output: from the first since the chain was reset on", SampleEdgesTest::outputReset);
        test("12 output: also within a MIX", SampleEdgesTest::outputWithin);
        test("12 output: 0 without such a chain", SampleEdgesTest::outputOfNone);
        test("24 measure: 0 without such a chain", SampleEdgesTest::measureNone);
        test("24 measure: 0 for another what", SampleEdgesTest::measureWhat);
        test("24 measure: 0 without any output", SampleEdgesTest::measureEmpty);
        test("24 measure: the greatest size", SampleEdgesTest::greatest);
        test("24 measure: the greatest size, of what is not a number none", SampleEdgesTest::greatestNan);
        test("24 measure: how often the sign changes", SampleEdgesTest::signs);
        test("24 measure: 0s and what is not a number passed by", SampleEdgesTest::signsPassedBy);
        test("24 measure: the longest row of 0s", SampleEdgesTest::zeros);
        test("24 measure: of the output that is kept", SampleEdgesTest::measureKept);
        test("24 measure: of the output since a reset", SampleEdgesTest::measureReset);
        Check.end();
    }

    /** Two chains of FIXED, the second one empty. */
    private static void two(Bench x) {
        x.alone(POLE, FIXED, 0, WHOLE, 8192);
        x.chain();
        x.feed(0, 100);
    }

    private static void gainInMix(Bench x) {
        x.alone(GAIN, DOUBLE, 0, d(2));
        x.alone(MIX, DOUBLE, 0, d(1), d(1));
        x.within(1, 0);
        x.feed(1, d(3));
    }

    // ---- promise 10 ----

    private static void howMany(Check t) {
        t.due("one", alone(GAIN, FIXED, 0).feed(0, 1), 1);
        Bench x = alone(DOWN, FIXED, 8);
        for (int i = 0; i < 17; i++) {
            t.due("DOWN at " + i, x.feed(0, 1), i % 8 == 0 ? 1 : 0);
        }
        Bench y = alone(UP, FIXED, 8);
        t.due("8", y.feed(0, 1), 8);
        y.put(0, HOLD, FIXED, 8);
        t.due("64", y.feed(0, 1), 64);
        y.put(0, DOWN, FIXED, 3);
        t.due("64 by 3, upwards", y.feed(0, 1), 22);
        t.due("64 by 3, one less ahead", y.feed(0, 1), 21);
        t.due("64 by 3", y.feed(0, 1), 21);
        Bench z = alone(DOWN, FIXED, 2);
        z.put(0, DOWN, FIXED, 2);
        z.put(0, UP, FIXED, 5);
        for (int i = 0; i < 9; i++) {
            t.due("a fourth of it, five times, at " + i, z.feed(0, 1), i % 4 == 0 ? 5 : 0);
        }
    }

    private static void feedNone(Check t) {
        int[] none = {-1, 2, 19, 20, LEAST, GREATEST};
        for (int c : none) {
            Twins.none(t, "chain " + c, SampleEdgesTest::two, x -> x.feed(c, 5));
        }
        Bench x = new Bench();
        two(x);
        t.due("the one that there is", x.feed(0, 5), 1);
        Bench y = new Bench();
        y.chains(19);
        y.alone(GAIN, FIXED, 0, WHOLE);
        t.due("the 20th of 20", y.feed(19, 5), 1);
        t.due("the 21st of 20", y.feed(20, 5), NONE);
    }

    private static void feedEmpty(Check t) {
        Twins.none(t, "no section", SampleEdgesTest::two, x -> x.feed(1, 5));
        Twins.none(t, "no section, 0", SampleEdgesTest::two, x -> x.feed(1, 0));
        Bench x = new Bench();
        two(x);
        x.put(1, GAIN, FIXED, 0, WHOLE);
        t.due("one section", x.feed(1, 5), 1);
    }

    private static void feedWithin(Check t) {
        Twins.none(t, "within a MIX", SampleEdgesTest::gainInMix, x -> x.feed(0, d(1)));
        Bench x = new Bench();
        gainInMix(x);
        t.due("the chain of the MIX", x.feed(1, d(1)), 1);
    }

    private static void feedShorts(Check t) {
        Bench x = alone(GAIN, FIXED, 0, WHOLE);
        long[] fit = {-32768, -32767, -1, 0, 1, 32766, 32767};
        for (long b : fit) {
            t.due("" + b, x.of(0, b), b);
        }
        long[] none = {-32769, 32768, 65535, 65536, 65541, -65536, 1L << 32, (1L << 32) + 5, (1L << 62) + 5, LEAST,
            GREATEST, Long.MIN_VALUE, Long.MAX_VALUE};
        for (long b : none) {
            Twins.none(t, "" + b, SampleEdgesTest::two, y -> y.feed(0, b));
        }
    }

    private static void feedInts(Check t) {
        Bench x = alone(DELAY, FLOAT, 1);
        long[] fit = {LEAST, LEAST + 1, -8388609, 0, 1, f(1), f(-1), FLOAT_INFINITY};
        for (long b : fit) {
            t.due("" + b, x.feed(0, b), 1);
            t.due("" + b, x.state(0, 0), b);
        }
        t.due("the greatest int", x.feed(0, GREATEST), 1);
        t.due("the greatest int", x.state(0, 0), FLOAT_NAN);
        long[] none = {LEAST - 1L, GREATEST + 1L, 0xffffffffL, 1L << 32, (1L << 32) + f(1), Long.MIN_VALUE, Long.MAX_VALUE};
        for (long b : none) {
            Twins.none(t, "" + b, y -> {
                y.alone(DELAY, FLOAT, 1);
                y.feed(0, f(2));
            }, y -> y.feed(0, b));
        }
    }

    private static void feedDoubles(Check t) {
        Bench x = alone(DELAY, DOUBLE, 1);
        long[] fit = {0, Long.MIN_VALUE, 1, Long.MIN_VALUE + 1, INFINITY, INFINITY - 1, d(Double.NEGATIVE_INFINITY), 32768,
            GREATEST + 1L, 1L << 32, NAN};
        for (long b : fit) {
            t.due("" + b, x.feed(0, b), 1);
            t.due("" + b, x.state(0, 0), b);
        }
        long[] nans = {Long.MAX_VALUE, -1, -32769, LEAST - 1L, INFINITY + 1};
        for (long b : nans) {
            t.due("" + b, x.feed(0, b), 1);
            t.due("" + b, x.state(0, 0), NAN);
        }
    }

    // ---- promise 11 ----

    private static void runLengths(Check t) {
        int[] fit = {1, 2, 99, 100};
        for (int n : fit) {
            Bench x = new Bench();
            two(x);
            t.due("n " + n, x.run(0, n, 5), n);
            t.due("came", x.chain(0, 2), n + 1);
        }
        int[] none = {0, -1, -100, 101, 102, LEAST, GREATEST};
        for (int n : none) {
            Twins.none(t, "n " + n, SampleEdgesTest::two, x -> x.run(0, n, 5));
        }
    }

    private static void runNone(Check t) {
        int[] none = {-1, 1, 2, 19, 20, LEAST, GREATEST};
        for (int c : none) {
            Twins.none(t, "chain " + c, SampleEdgesTest::two, x -> x.run(c, 5, 5));
        }
        Twins.none(t, "within a MIX", SampleEdgesTest::gainInMix, x -> x.run(0, 5, 5));
        Bench x = new Bench();
        gainInMix(x);
        t.due("the chain of the MIX", x.run(1, 5, 5), 5);
    }

    private static void runShorts(Check t) {
        int[] seeds = {0, 1, -1, 32767, 32768, 65535, 65536, 98303, 98304, -32768, -32769, LEAST, GREATEST, LEAST + 32768};
        int[] due = {0, 1, -1, 32767, -32768, -1, 0, 32767, -32768, -32768, 32767, 0, -1, -32768};
        for (int i = 0; i < seeds.length; i++) {
            Bench x = alone(GAIN, FIXED, 0, WHOLE);
            t.due("seed " + seeds[i], x.run(0, 1, seeds[i]), 1);
            t.due("seed " + seeds[i], x.output(0, 0), due[i]);
        }
    }

    private static void runOthers(Check t) {
        int[] seeds = {0, 1, -1, 255, 256, 257, 32767, 32768, 65535, 65536, -32769, LEAST, GREATEST};
        for (int seed : seeds) {
            double due = (short) seed / 256.0;
            Bench x = alone(GAIN, DOUBLE, 0, d(1));
            x.run(0, 1, seed);
            t.due("seed " + seed, x.output(0, 0), d(due));
            Bench y = alone(GAIN, FLOAT, 0, f(1));
            y.run(0, 1, seed);
            t.due("seed " + seed + " of FLOAT", y.output(0, 0), f(due));
        }
    }

    private static void runSeeds(Check t) {
        int[] seeds = {0, 1, 2, 77, GREATEST, LEAST, -1};
        for (int first : seeds) {
            Bench x = alone(GAIN, FIXED, 0, WHOLE);
            x.run(0, 100, first);
            int seed = first;
            for (int i = 0; i < 100; i++) {
                t.due("seed " + first + " at " + i, x.output(0, i), (short) seed);
                seed = seed * 1103515245 + 12345;
            }
            x.run(0, 2, first);
            t.due("from the seed again", x.output(0, 100), (short) first);
        }
    }

    private static void runHowMany(Check t) {
        Bench x = alone(DOWN, FIXED, 8);
        t.due("13 of 100", x.run(0, 100, 1), 13);
        t.due("12 of 100", x.run(0, 100, 1), 12);
        t.due("13 of 100 again", x.run(0, 100, 1), 13);
        t.due("none", x.run(0, 4, 1), 0);
        t.due("one", x.run(0, 1, 1), 1);
        Bench y = alone(UP, FIXED, 8);
        y.put(0, HOLD, FIXED, 8);
        t.due("6400", y.run(0, 100, 1), 6400);
        t.due("64", y.run(0, 1, 1), 64);
    }

    // ---- promise 12 ----

    /** A chain that made 1, 2, 3 and so on, 16 of a sample: each gets a 1, and the last POLE counts them. */
    private static Bench counted(int last) {
        Bench x = alone(POLE, FIXED, 0, WHOLE, WHOLE);
        x.put(0, HOLD, FIXED, 2);
        x.put(0, HOLD, FIXED, 8);
        x.put(0, POLE, FIXED, 0, WHOLE, WHOLE);
        for (int i = 0; i < last / 16; i++) {
            x.feed(0, i == 0 ? 1 : 0);
        }
        return x;
    }

    private static void outputNone(Check t) {
        Bench x = alone(GAIN, FIXED, 0, WHOLE);
        t.due("none yet", x.output(0, 0), 0);
        x.feed(0, 5);
        t.due("the first", x.output(0, 0), 5);
        int[] none = {-1, 1, 2, 400, LEAST, GREATEST};
        for (int i : none) {
            Twins.zero(t, "output " + i, SampleEdgesTest::two, y -> y.output(0, i));
        }
        x.feed(0, 6);
        t.due("the second", x.output(0, 1), 6);
        t.due("behind the last", x.output(0, 2), 0);
    }

    private static void outputKept(Check t) {
        Bench x = counted(400);
        t.due("400 came", x.chain(0, 2), 400);
        t.due("the eldest of 400", x.output(0, 0), 1);
        t.due("the latest of 400", x.output(0, 399), 400);
        t.due("behind it", x.output(0, 400), 0);
        for (int i = 0; i < 400; i++) {
            t.due("output " + i, x.output(0, i), i + 1);
        }
        Bench y = alone(GAIN, FIXED, 0, WHOLE);
        for (int i = 1; i <= 401; i++) {
            y.feed(0, i);
        }
        t.due("the first of 401", y.output(0, 0), 0);
        t.due("the second of 401", y.output(0, 1), 2);
        t.due("the latest of 401", y.output(0, 400), 401);
        t.due("behind it", y.output(0, 401), 0);
        y.feed(0, 402);
        t.due("the first of 402", y.output(0, 0), 0);
        t.due("the second of 402", y.output(0, 1), 0);
        t.due("the third of 402", y.output(0, 2), 3);
        t.due("the latest of 402", y.output(0, 401), 402);
    }

    private static void outputFar(Check t) {
        Bench x = counted(6400);
        t.due("6400 came", x.chain(0, 2), 6400);
        t.due("no longer kept", x.output(0, 5999), 0);
        t.due("the eldest kept", x.output(0, 6000), 6001);
        t.due("the latest", x.output(0, 6399), 6400);
        t.due("behind it", x.output(0, 6400), 0);
        t.due("0", x.output(0, 0), 0);
        t.due("399", x.output(0, 399), 0);
        Bench y = counted(704);
        for (int i = 0; i < 304; i++) {
            t.due("no longer kept of 704, " + i, y.output(0, i), 0);
        }
        t.due("the eldest kept of 704", y.output(0, 304), 305);
    }

    private static void outputReset(Check t) {
        Bench x = counted(416);
        t.due("ahead of it", x.output(0, 415), 416);
        x.reset(0);
        int[] none = {0, 1, 15, 16, 399, 400, 415, 416};
        for (int i : none) {
            t.due("behind it, " + i, x.output(0, i), 0);
        }
        x.feed(0, 1);
        t.due("the first since", x.output(0, 0), 1);
        t.due("the 16th since", x.output(0, 15), 16);
        t.due("no 17th", x.output(0, 16), 0);
    }

    private static void outputWithin(Check t) {
        Bench x = alone(GAIN, FIXED, 0, WHOLE);
        x.alone(HOLD, FIXED, 8);
        x.put(1, MIX, FIXED, 0, WHOLE, WHOLE);
        x.within(2, 0);
        for (int i = 1; i <= 50; i++) {
            x.feed(1, i);
        }
        t.due("400 came", x.chain(0, 2), 400);
        t.due("the eldest", x.output(0, 0), 1);
        x.feed(1, 51);
        t.due("408 came", x.chain(0, 2), 408);
        t.due("not kept", x.output(0, 7), 0);
        t.due("the eldest kept", x.output(0, 8), 2);
        t.due("the latest", x.output(0, 407), 51);
        t.due("behind it", x.output(0, 408), 0);
        x.reset(0);
        t.due("behind a reset of its own", x.output(0, 0), 0);
        t.due("the outer one's stays", x.output(1, 407), 102);
        x.feed(1, 7);
        t.due("the first since", x.output(0, 0), 7);
        x.reset(1);
        t.due("behind a reset of the outer one", x.output(0, 0), 0);
    }

    private static void outputOfNone(Check t) {
        int[] none = {-1, 1, 2, 19, 20, LEAST, GREATEST};
        for (int c : none) {
            Twins.zero(t, "chain " + c, SampleEdgesTest::two, x -> x.output(c, 0));
        }
    }

    // ---- promise 24 ----

    private static Bench made(int sort, long... samples) {
        Bench x = alone(GAIN, sort, 0, one(sort));
        x.feedAll(0, samples);
        return x;
    }

    private static void measureNone(Check t) {
        int[] none = {-1, 2, 19, 20, LEAST, GREATEST};
        for (int c : none) {
            for (int what = 0; what < 3; what++) {
                int which = what;
                Twins.zero(t, "chain " + c + ", what " + what, SampleEdgesTest::two, x -> x.measure(c, which));
            }
        }
        t.due("the one that there is", made(FIXED, 0, 7, -7).measure(0, 0), 7);
    }

    private static void measureWhat(Check t) {
        int[] none = {-1, 3, 4, LEAST, GREATEST};
        for (int what : none) {
            Twins.zero(t, "what " + what, x -> {
                two(x);
                x.feedAll(0, -5, 0, 0, 7);
            }, x -> x.measure(0, what));
        }
    }

    private static void measureEmpty(Check t) {
        for (int sort = 0; sort < 3; sort++) {
            Bench x = alone(GAIN, sort, 0, one(sort));
            Bench y = made(sort, sample(sort, -9), sample(sort, 0), sample(sort, 9));
            t.due("a size", y.measure(0, 0), sample(sort, 9));
            t.due("a change", y.measure(0, 1), 1);
            t.due("a row", y.measure(0, 2), 1);
            y.reset(0);
            for (int what = 0; what < 3; what++) {
                t.due("none yet, what " + what, x.measure(0, what), 0);
                t.due("none behind a reset, what " + what, y.measure(0, what), 0);
            }
        }
        Bench z = new Bench();
        z.chain();
        for (int what = 0; what < 3; what++) {
            t.due("of an empty chain, what " + what, z.measure(0, what), 0);
        }
    }

    private static void greatest(Check t) {
        t.due("one", made(DOUBLE, d(-3)).measure(0, 0), d(3));
        t.due("the first", made(DOUBLE, d(-3), d(2.5)).measure(0, 0), d(3));
        t.due("the last", made(DOUBLE, d(2.5), d(-3)).measure(0, 0), d(3));
        t.due("-0.0", made(DOUBLE, d(-0.0)).measure(0, 0), 0);
        t.due("-0.0 of FLOAT", made(FLOAT, f(-0.0)).measure(0, 0), 0);
        t.due("the least", made(DOUBLE, 0, Long.MIN_VALUE + 1, 0).measure(0, 0), 1);
        t.due("nearly as great", made(DOUBLE, d(2), d(Math.nextUp(2.0)), d(2)).measure(0, 0), d(Math.nextUp(2.0)));
        t.due("infinity", made(DOUBLE, d(Double.MAX_VALUE), d(Double.NEGATIVE_INFINITY)).measure(0, 0), INFINITY);
        t.due("of FLOAT", made(FLOAT, f(1), f(-2), f(1.5)).measure(0, 0), f(2));
        t.due("of FIXED", made(FIXED, 1, -32767, 32766).measure(0, 0), 32767);
        t.due("of FIXED", made(FIXED, -1, 0, 1).measure(0, 0), 1);
        t.due("0s of FIXED", made(FIXED, 0, 0).measure(0, 0), 0);
    }

    private static void greatestNan(Check t) {
        t.due("ahead", made(DOUBLE, NAN, d(-2)).measure(0, 0), d(2));
        t.due("behind", made(DOUBLE, d(-2), NAN).measure(0, 0), d(2));
        t.due("alone", made(DOUBLE, NAN).measure(0, 0), 0);
        t.due("of FLOAT", made(FLOAT, FLOAT_NAN, f(-2), FLOAT_NAN).measure(0, 0), f(2));
        t.due("alone of FLOAT", made(FLOAT, FLOAT_NAN, FLOAT_NAN).measure(0, 0), 0);
        t.due("infinity beside it", made(DOUBLE, NAN, INFINITY, NAN).measure(0, 0), INFINITY);
    }

    private static void signs(Check t) {
        t.due("one alone", made(FIXED, -1).measure(0, 1), 0);
        t.due("alike", made(FIXED, 1, 2, 3).measure(0, 1), 0);
        t.due("alike below 0", made(FIXED, -1, -2, -3).measure(0, 1), 0);
        t.due("above to below", made(FIXED, 1, -1).measure(0, 1), 1);
        t.due("below to above", made(FIXED, -1, 1).measure(0, 1), 1);
        t.due("to and fro", made(FIXED, -1, 1, -1, 1, 1, -1).measure(0, 1), 4);
        t.due("the ends of FIXED", made(FIXED, -32768, 32767, -32768).measure(0, 1), 2);
        t.due("the least of DOUBLE", made(DOUBLE, 1, Long.MIN_VALUE + 1, 1).measure(0, 1), 2);
        t.due("infinities", made(FLOAT, f(Float.NEGATIVE_INFINITY), FLOAT_INFINITY).measure(0, 1), 1);
    }

    private static void signsPassedBy(Check t) {
        t.due("0s alone", made(FIXED, 0, 0, 0).measure(0, 1), 0);
        t.due("0 to below", made(FIXED, 0, -1).measure(0, 1), 0);
        t.due("above to 0", made(FIXED, 1, 0).measure(0, 1), 0);
        t.due("alike over 0s", made(FIXED, 1, 0, 0, 1).measure(0, 1), 0);
        t.due("not alike over 0s", made(FIXED, 1, 0, 0, -1, 0, 1).measure(0, 1), 2);
        t.due("0s with signs", made(DOUBLE, 0, d(-0.0), 0, d(-0.0)).measure(0, 1), 0);
        t.due("over 0s with signs", made(DOUBLE, d(1), d(-0.0), d(1), d(-0.0), d(-1)).measure(0, 1), 1);
        t.due("alike over what is not a number", made(DOUBLE, d(-1), NAN, d(-1)).measure(0, 1), 0);
        t.due("not alike over it", made(DOUBLE, d(-1), NAN, d(1), NAN).measure(0, 1), 1);
        t.due("not alike over it and 0s", made(FLOAT, f(-1), FLOAT_NAN, 0, f(1)).measure(0, 1), 1);
    }

    private static void zeros(Check t) {
        t.due("none", made(FIXED, 1, -1).measure(0, 2), 0);
        t.due("one", made(FIXED, 1, 0, -1).measure(0, 2), 1);
        t.due("all", made(FIXED, 0, 0, 0).measure(0, 2), 3);
        t.due("the first row", made(FIXED, 0, 0, 0, 1, 0, 0).measure(0, 2), 3);
        t.due("the last row", made(FIXED, 0, 1, 0, 0).measure(0, 2), 2);
        t.due("the one between", made(FIXED, 0, 1, 0, 0, 1, 0).measure(0, 2), 2);
        t.due("-0.0 is one", made(DOUBLE, d(1), 0, d(-0.0), 0, d(1)).measure(0, 2), 3);
        t.due("-0.0 of FLOAT is one", made(FLOAT, f(-0.0)).measure(0, 2), 1);
        t.due("the least is none", made(DOUBLE, 0, 1, 0, Long.MIN_VALUE + 1, 0).measure(0, 2), 1);
        t.due("what is not a number is none", made(DOUBLE, 0, NAN, 0, 0).measure(0, 2), 2);
    }

    /** A chain that made -9 and then so many 0s: 7, or 8 more, or 16 more and so on. */
    private static Bench afterMinusNine(int zeros) {
        Bench x = alone(UP, FIXED, 8);
        x.feed(0, -9);
        for (int i = 0; i < (zeros - 7) / 8; i++) {
            x.feed(0, 0);
        }
        return x;
    }

    private static void measureKept(Check t) {
        Bench x = afterMinusNine(399);
        t.due("400 came", x.chain(0, 2), 400);
        t.due("the first is kept", x.measure(0, 0), 9);
        t.due("399 0s", x.measure(0, 2), 399);
        x.feed(0, 5);
        t.due("the first is not kept", x.measure(0, 0), 5);
        t.due("its sign is not", x.measure(0, 1), 0);
        t.due("its row of 0s is shorter", x.measure(0, 2), 392);
        Bench y = afterMinusNine(407);
        t.due("408 came", y.chain(0, 2), 408);
        t.due("0s alone", y.measure(0, 0), 0);
        t.due("400 at most", y.measure(0, 2), 400);
        Bench z = alone(GAIN, FIXED, 0, WHOLE);
        z.feed(0, -9);
        for (int i = 0; i < 399; i++) {
            z.feed(0, 1);
        }
        t.due("a change from the eldest kept", z.measure(0, 1), 1);
        z.feed(0, 1);
        t.due("none when it is gone", z.measure(0, 1), 0);
        t.due("its size is gone", z.measure(0, 0), 1);
    }

    private static void measureReset(Check t) {
        Bench x = made(FIXED, -9, 0, 0, 9);
        x.reset(0);
        x.feedAll(0, 1, 0, 1);
        t.due("the greatest size", x.measure(0, 0), 1);
        t.due("sign changes", x.measure(0, 1), 0);
        t.due("0s", x.measure(0, 2), 1);
        x.feed(0, 32768);
        t.due("a refused sample", x.measure(0, 0), 1);
    }
}
