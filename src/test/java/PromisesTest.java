/** A test for each promise: ordinary inputs, the edges that the document names, wrong inputs. */
public final class PromisesTest {
    private static final int NONE = FilterBench.NONE;
    private static final int DOUBLE = 0;
    private static final int FLOAT = 1;
    private static final int FIXED = 2;
    private static final long NAN = 0x7ff8000000000000L;
    private static final int FLOAT_NAN = 0x7fc00000;

    public static void main(String[] args) {
        newObject(new Check("1 A new object"));
        section(new Check("2 section"));
        coefficient(new Check("3 coefficient"));
        ratio(new Check("4 ratio"));
        rule(new Check("5 rule"));
        chain(new Check("6 chain()"));
        add(new Check("7 add"));
        loop(new Check("8 loop"));
        loopSamples(new Check("8 loop: its samples"));
        within(new Check("9 within"));
        withinSamples(new Check("9 within: what a MIX makes"));
        feed(new Check("10 feed"));
        kinds(new Check("10 feed: the kinds in doubles"));
        fixedKinds(new Check("10 feed: the kinds in shorts"));
        rates(new Check("10 feed: DOWN, UP, HOLD"));
        sums(new Check("10 feed: sums of FIXED"));
        run(new Check("11 run"));
        output(new Check("12 output"));
        state(new Check("13 state"));
        about(new Check("14 about"));
        told(new Check("15 told"));
        reset(new Check("16 reset"));
        keep(new Check("17 keep"));
        back(new Check("18 back"));
        same(new Check("19 same"));
        poles(new Check("20 poles"));
        cycles(new Check("21 cycles"));
        cycle(new Check("22 cycle"));
        convert(new Check("23 convert"));
        convertTree(new Check("23 convert: chains within, and too many"));
        measure(new Check("24 measure"));
        count(new Check("25 count"));
        chainWhat(new Check("26 chain(c, what)"));
        Check.end();
    }

    // ---- helpers ----

    private static long d(double v) {
        return Double.doubleToLongBits(v);
    }

    private static long f(double v) {
        return Float.floatToIntBits((float) v);
    }

    /** A section with these coefficients, in a chain of its own: both have the same number in a new object. */
    private static int alone(FilterBench x, int kind, int sort, int length, long... factors) {
        int s = x.section(kind, sort, length);
        for (int k = 0; k < factors.length; k++) {
            x.coefficient(s, k, factors[k]);
        }
        int c = x.chain();
        x.add(c, s);
        return c;
    }

    private static FilterBench one(int kind, int sort, int length, long... factors) {
        FilterBench x = new FilterBench();
        alone(x, kind, sort, length, factors);
        return x;
    }

    /** Feeds samples of DOUBLE to chain 0, each of which makes the one that is due. */
    private static void makes(Check t, FilterBench x, double[] in, double[] due) {
        for (int i = 0; i < in.length; i++) {
            t.due("feed " + in[i], x.feed(0, d(in[i])), 1);
            t.due("made of " + in[i] + " at " + i, last(x, 0), d(due[i]));
        }
    }

    private static void makes(Check t, FilterBench x, long[] in, long[] due) {
        for (int i = 0; i < in.length; i++) {
            t.due("feed " + in[i], x.feed(0, in[i]), 1);
            t.due("made of " + in[i] + " at " + i, last(x, 0), due[i]);
        }
    }

    private static long last(FilterBench x, int c) {
        return x.output(c, x.chain(c, 2) - 1);
    }

    private static void outputs(Check t, FilterBench x, int c, long... due) {
        t.due("how many came", x.chain(c, 2), due.length);
        for (int i = 0; i < due.length; i++) {
            t.due("output " + i, x.output(c, i), due[i]);
        }
    }

    private static double[] in(double... v) {
        return v;
    }

    private static long[] raw(long... v) {
        return v;
    }

    // ---- the promises ----

    private static void newObject(Check t) {
        FilterBench x = new FilterBench();
        t.due("NONE", FilterBench.NONE, -1);
        t.due("sections", x.count(0), 0);
        t.due("chains", x.count(1), 0);
        t.due("kept", x.count(2), 0);
        t.due("about(0, 0)", x.about(0, 0), NONE);
        t.due("chain(0, 0)", x.chain(0, 0), NONE);
        t.due("add(0, 0)", x.add(0, 0), NONE);
        t.due("feed(0, 0)", x.feed(0, 0), NONE);
        t.due("run(0, 1, 1)", x.run(0, 1, 1), NONE);
        t.due("convert(0, 0)", x.convert(0, 0), NONE);
        t.due("keep(0)", x.keep(0), NONE);
        t.no("back(0)", x.back(0));
        t.no("same(0)", x.same(0));
        t.no("reset(0)", x.reset(0));
        t.due("told(0, 0)", x.told(0, 0), 0);
        t.due("poles(0)", x.poles(0), NONE);
        FilterBench y = new FilterBench();
        x.section(0, 0, 0);
        t.due("sections of another object", y.count(0), 0);
        t.close();
    }

    private static void section(Check t) {
        FilterBench x = new FilterBench();
        t.due("kind -1", x.section(-1, 0, 1), NONE);
        t.due("kind 16", x.section(16, 0, 1), NONE);
        t.due("sort -1", x.section(0, -1, 1), NONE);
        t.due("sort 3", x.section(0, 3, 1), NONE);
        int[] kinds = {6, 7, 8, 12, 13, 14};
        int[] least = {1, 1, 1, 2, 2, 2};
        int[] most = {64, 32, 64, 8, 8, 8};
        for (int i = 0; i < kinds.length; i++) {
            t.due("too short of " + kinds[i], x.section(kinds[i], 0, least[i] - 1), NONE);
            t.due("too long of " + kinds[i], x.section(kinds[i], 0, most[i] + 1), NONE);
            t.due("least of " + kinds[i], x.section(kinds[i], i % 3, least[i]), 2 * i);
            t.due("most of " + kinds[i], x.section(kinds[i], i % 3, most[i]), 2 * i + 1);
        }
        int[] others = {0, 1, 2, 3, 4, 5, 9, 10, 11, 15};
        for (int i = 0; i < others.length; i++) {
            int length = i % 2 == 0 ? Integer.MIN_VALUE : Integer.MAX_VALUE;
            t.due("any length of " + others[i], x.section(others[i], 0, length), 12 + i);
            t.due("length told of " + others[i], x.about(12 + i, 2), length);
        }
        for (int i = 22; i < 60; i++) {
            t.due("section " + i, x.section(0, 2, 0), i);
        }
        t.due("a 61st", x.section(0, 0, 0), NONE);
        t.due("sections", x.count(0), 60);
        t.due("the last one's sort", x.about(59, 1), 2);
        t.due("rounding", x.about(59, 8), 0);
        t.due("limit", x.about(59, 9), 0);
        t.close();
    }

    private static void coefficient(Check t) {
        FilterBench x = new FilterBench();
        int[] counts = {1, 2, 5, 5, 5, 1, 0, 1, 1, 1, 1, 1, 0, 0, 0, 2};
        for (int kind = 0; kind < 16; kind++) {
            x.section(kind, DOUBLE, 2);
            for (int k = -1; k < 6; k++) {
                boolean due = k >= 0 && k < counts[kind];
                t.due("coefficient " + k + " of " + kind, x.coefficient(kind, k, 7) ? 1 : 0, due ? 1 : 0);
                t.due("told " + k + " of " + kind, x.told(kind, k), due ? 7 : 0);
            }
        }
        t.no("no section", x.coefficient(16, 0, 0));
        t.no("section -1", x.coefficient(-1, 0, 0));
        int s = x.section(0, FIXED, 0);
        t.yes("32767", x.coefficient(s, 0, 32767));
        t.no("32768", x.coefficient(s, 0, 32768));
        t.due("as it was", x.told(s, 0), 32767);
        t.yes("-32768", x.coefficient(s, 0, -32768));
        t.no("-32769", x.coefficient(s, 0, -32769));
        t.no("2 ^ 32", x.coefficient(s, 0, 1L << 32));
        t.due("as it was", x.told(s, 0), -32768);
        int u = x.section(0, FLOAT, 0);
        t.yes("the greatest int", x.coefficient(u, 0, Integer.MAX_VALUE));
        t.due("not a number, as floatToIntBits", x.told(u, 0), FLOAT_NAN);
        t.no("2 ^ 31", x.coefficient(u, 0, 1L << 31));
        t.yes("-0.0", x.coefficient(u, 0, Integer.MIN_VALUE));
        t.no("less than an int", x.coefficient(u, 0, Integer.MIN_VALUE - 1L));
        t.due("with its sign", x.told(u, 0), Integer.MIN_VALUE);
        t.yes("not a number, with a sign", x.coefficient(0, 0, -1));
        t.due("not a number, as doubleToLongBits", x.told(0, 0), NAN);
        t.yes("infinity", x.coefficient(0, 0, 0xfff0000000000000L));
        t.due("infinity", x.told(0, 0), 0xfff0000000000000L);
        t.close();
    }

    private static void ratio(Check t) {
        FilterBench x = new FilterBench();
        x.section(0, DOUBLE, 0);
        x.section(0, FLOAT, 0);
        x.section(0, FIXED, 0);
        x.section(9, FIXED, 0);
        x.section(10, FIXED, 0);
        for (int s = 0; s < 5; s++) {
            t.no("den 0", x.ratio(s, 0, 1, 0));
            t.no("another coefficient", x.ratio(s, 1, 1, 2));
            t.no("coefficient -1", x.ratio(s, -1, 1, 2));
        }
        t.no("no section", x.ratio(5, 0, 1, 2));
        t.yes("1/3", x.ratio(0, 0, 1, 3));
        t.due("1/3", x.told(0, 0), d(1.0 / 3));
        t.yes("least by -1", x.ratio(0, 0, Integer.MIN_VALUE, -1));
        t.due("least by -1", x.told(0, 0), d(2147483648.0));
        t.yes("1 by least", x.ratio(0, 0, 1, Integer.MIN_VALUE));
        t.due("1 by least", x.told(0, 0), d(1 / -2147483648.0));
        t.yes("0 by -5", x.ratio(0, 0, 0, -5));
        t.due("0 by -5", x.told(0, 0), d(-0.0));
        t.yes("1/3", x.ratio(1, 0, -1, 3));
        t.due("-1/3", x.told(1, 0), f(-1.0 / 3));
        t.yes("1/3", x.ratio(2, 0, 1, 3));
        t.due("1/3", x.told(2, 0), 5461);
        t.yes("halves to the even one", x.ratio(2, 0, 1, 32768));
        t.due("1/2 of a 16384th", x.told(2, 0), 0);
        t.yes("halves to the even one", x.ratio(2, 0, 3, 32768));
        t.due("3/2 of a 16384th", x.told(2, 0), 2);
        t.yes("halves to the even one", x.ratio(2, 0, 5, -32768));
        t.due("-5/2 of a 16384th", x.told(2, 0), -2);
        t.yes("-2", x.ratio(2, 0, -2, 1));
        t.due("-2", x.told(2, 0), -32768);
        t.no("2", x.ratio(2, 0, 2, 1));
        t.no("the greatest", x.ratio(2, 0, Integer.MAX_VALUE, 1));
        t.due("as it was", x.told(2, 0), -32768);
        t.no("65535/32768, which is 2", x.ratio(2, 0, 65535, 32768));
        for (int s = 3; s < 5; s++) {
            t.yes("7/2 itself", x.ratio(s, 0, 7, 2));
            t.due("7/2", x.told(s, 0), 4);
            t.yes("32767", x.ratio(s, 0, 32767, 1));
            t.no("32768", x.ratio(s, 0, 32768, 1));
            t.due("32767", x.told(s, 0), 32767);
        }
        t.close();
    }

    private static void rule(Check t) {
        FilterBench x = new FilterBench();
        x.section(0, DOUBLE, 0);
        x.section(0, FLOAT, 0);
        x.section(0, FIXED, 0);
        for (int r = -1; r < 4; r++) {
            for (int l = -1; l < 3; l++) {
                boolean due = r >= 0 && r < 3 && l >= 0 && l < 2;
                t.no("of DOUBLE", x.rule(0, r, l));
                t.no("of FLOAT", x.rule(1, r, l));
                t.due("of FIXED " + r + " " + l, x.rule(2, r, l) ? 1 : 0, due ? 1 : 0);
                t.due("rounding", x.about(2, 8), due ? r : r <= 0 ? 0 : Math.min(r - (l < 0 ? 1 : 0), 2));
            }
        }
        t.due("limit", x.about(2, 9), 1);
        t.no("no section", x.rule(3, 0, 0));
        t.no("section -1", x.rule(-1, 0, 0));
        t.close();
    }

    private static void chain(Check t) {
        FilterBench x = new FilterBench();
        for (int i = 0; i < 20; i++) {
            t.due("chain " + i, x.chain(), i);
            t.due("its sections", x.chain(i, 0), 0);
            t.due("its sort", x.chain(i, 4), NONE);
        }
        t.due("a 21st", x.chain(), NONE);
        t.due("chains", x.count(1), 20);
        t.close();
    }

    private static void add(Check t) {
        FilterBench x = new FilterBench();
        x.chain();
        x.chain();
        for (int i = 0; i < 11; i++) {
            x.section(0, FIXED, 0);
        }
        int other = x.section(0, FLOAT, 0);
        t.due("no chain", x.add(2, 0), NONE);
        t.due("chain -1", x.add(-1, 0), NONE);
        t.due("no section", x.add(0, 12), NONE);
        t.due("section -1", x.add(0, -1), NONE);
        t.due("the first", x.add(0, 0), 0);
        t.due("stands in one", x.add(0, 0), NONE);
        t.due("stands in one", x.add(1, 0), NONE);
        t.due("another sort", x.add(0, other), NONE);
        for (int i = 1; i < 10; i++) {
            t.due("place", x.add(0, i), i);
        }
        t.due("an 11th", x.add(0, 10), NONE);
        t.due("to another", x.add(1, 10), 0);
        t.due("its chain", x.about(10, 3), 1);
        FilterBench y = new FilterBench();
        y.chain();
        int[] kinds = {13, 12, 14, 12, 14, 13, 12};
        int[] due = {0, 1, 2, 3, NONE, NONE, 4};
        for (int i = 0; i < kinds.length; i++) {
            t.due("of kind " + kinds[i], y.add(0, y.section(kinds[i], 0, 2)), due[i]);
        }
        FilterBench z = new FilterBench();
        alone(z, 0, DOUBLE, 0);
        int outer = alone(z, 15, DOUBLE, 0);
        t.yes("within", z.within(1, 0));
        int more = z.section(0, DOUBLE, 0);
        t.due("to a chain within a mix", z.add(0, more), NONE);
        t.due("to the outer one", z.add(outer, more), 1);
        t.close();
    }

    private static void loop(Check t) {
        FilterBench x = new FilterBench();
        x.chain();
        t.due("of an empty chain", x.loop(0, 0, 0, 1, 0), NONE);
        int[] kinds = {0, 0, 12, 0, 13, 14, 0, 15};
        for (int kind : kinds) {
            x.add(0, x.section(kind, FIXED, 2));
        }
        t.due("no chain", x.loop(1, 0, 0, 1, 0), NONE);
        t.due("a above b", x.loop(0, 1, 0, 1, 0), NONE);
        t.due("a -1", x.loop(0, -1, 0, 1, 0), NONE);
        t.due("b too great", x.loop(0, 6, 8, 1, 0), NONE);
        t.due("n 0", x.loop(0, 0, 0, 0, 0), NONE);
        t.due("n 65", x.loop(0, 0, 0, 65, 0), NONE);
        t.due("no short", x.loop(0, 0, 0, 1, 32768), NONE);
        t.due("DOWN at b", x.loop(0, 1, 2, 1, 0), NONE);
        t.due("DOWN between", x.loop(0, 1, 3, 1, 0), NONE);
        t.due("DOWN at both", x.loop(0, 2, 2, 1, 0), NONE);
        t.due("UP", x.loop(0, 3, 4, 1, 0), NONE);
        t.due("HOLD", x.loop(0, 5, 6, 1, 0), NONE);
        t.due("none yet", x.chain(0, 1), 0);
        t.due("the first", x.loop(0, 0, 1, 64, 32767), 1);
        t.due("the second", x.loop(0, 3, 3, 1, -32768), 2);
        t.due("the third", x.loop(0, 6, 7, 2, 1), 3);
        t.due("a fourth", x.loop(0, 0, 0, 1, 0), NONE);
        t.due("loops", x.chain(0, 1), 3);
        FilterBench y = new FilterBench();
        alone(y, 0, FLOAT, 0);
        alone(y, 15, FLOAT, 0);
        t.due("no int", y.loop(0, 0, 0, 1, 1L << 31), NONE);
        t.yes("within", y.within(1, 0));
        t.due("within a mix", y.loop(0, 0, 0, 1, 0), NONE);
        t.due("of the outer one", y.loop(1, 0, 0, 1, 0), 1);
        t.close();
    }

    private static void loopSamples(Check t) {
        FilterBench x = one(0, DOUBLE, 0, d(1));
        x.feed(0, d(100));
        t.due("from now on", x.loop(0, 0, 0, 2, d(0.5)), 1);
        makes(t, x, in(8, 0, 0, 0, 0), in(8, 0, 4, 0, 2));
        FilterBench y = one(0, DOUBLE, 0, d(1));
        y.add(0, y.section(0, DOUBLE, 0));
        y.coefficient(1, 0, d(10));
        y.loop(0, 0, 1, 1, d(0.5));
        makes(t, y, in(1, 0, 0), in(10, 50, 250));
        FilterBench z = one(0, FIXED, 0, 16384);
        z.rule(0, 1, 1);
        z.loop(0, 0, 0, 1, 24576);
        z.loop(0, 0, 0, 1, 16384);
        makes(t, z, raw(3, 0, 0), raw(3, 7, 17));
        z.feed(0, 32767);
        t.due("each sum by the section's limit", last(z, 0), (short) ((short) (32767 + 25) + 17));
        t.due("an over of the section", z.about(0, 5), 1);
        FilterBench r = one(0, FIXED, 0, 16384);
        r.rule(0, 2, 0);
        r.loop(0, 0, 0, 1, 8192);
        makes(t, r, raw(1, 0, 0, 0), raw(1, 0, 0, 0));
        t.due("the section's rest", r.state(0, 100), 8192);
        makes(t, r, raw(1, 0), raw(1, 1));
        t.due("the section's rest", r.state(0, 100), 0);
        t.close();
    }

    private static void within(Check t) {
        FilterBench x = new FilterBench();
        alone(x, 0, DOUBLE, 0);
        x.chain();
        alone(x, 15, DOUBLE, 0);
        alone(x, 0, FLOAT, 0);
        int outer = alone(x, 15, DOUBLE, 0);
        int gain = x.section(0, DOUBLE, 0);
        int loose = x.section(15, DOUBLE, 0);
        x.add(outer, gain);
        t.no("no section", x.within(6, 0));
        t.no("section -1", x.within(-1, 0));
        t.no("no chain", x.within(1, 5));
        t.no("chain -1", x.within(1, -1));
        t.no("no mix", x.within(gain, 0));
        t.no("stands in no chain", x.within(loose, 0));
        t.no("an empty chain", x.within(1, 1));
        t.no("its own chain", x.within(1, 2));
        t.no("a greater chain", x.within(1, 4));
        t.no("another sort", x.within(3, 3));
        t.yes("within", x.within(1, 0));
        t.due("the chain within it", x.about(1, 7), 0);
        t.due("the mix that it is within", x.chain(0, 3), 1);
        t.no("has one", x.within(1, 0));
        t.no("in another mix", x.within(3, 0));
        t.yes("the mix's own chain", x.within(3, 2));
        for (int kind = 12; kind <= 14; kind++) {
            FilterBench y = one(kind, DOUBLE, 2);
            alone(y, 15, DOUBLE, 0);
            t.no("with " + kind, y.within(1, 0));
        }
        FilterBench z = one(0, DOUBLE, 0, d(1));
        alone(z, 15, DOUBLE, 0);
        alone(z, 15, DOUBLE, 0);
        t.yes("first the outer one", z.within(2, 1));
        t.yes("a mix in a chain within", z.within(1, 0));
        t.close();
    }

    private static void withinSamples(Check t) {
        FilterBench x = one(1, DOUBLE, 0, d(1), d(0.5));
        alone(x, 15, DOUBLE, 0, d(2), d(10));
        x.within(1, 0);
        t.due("feed to the inner one", x.feed(0, d(1)), NONE);
        t.due("run of the inner one", x.run(0, 1, 1), NONE);
        x.feed(1, d(1));
        x.feed(1, d(0));
        outputs(t, x, 0, d(1), d(0.5));
        outputs(t, x, 1, d(12), d(5));
        FilterBench y = one(15, DOUBLE, 0, d(-1), d(-1));
        makes(t, y, in(3, 0), in(-3, -0.0));
        y.coefficient(0, 1, d(Double.POSITIVE_INFINITY));
        makes(t, y, in(3), in(Double.NaN));
        FilterBench z = new FilterBench();
        alone(z, 0, FIXED, 0, 16384);
        for (int i = 1; i < 20; i++) {
            alone(z, 15, FIXED, 0, 16384, 16384);
            t.yes("within", z.within(i, i - 1));
        }
        t.due("twenty, one in the other", z.feed(19, 3), 1);
        for (int i = 0; i < 20; i++) {
            t.due("made by " + i, z.output(i, 0), 3 * (i + 1));
        }
        t.close();
    }

    private static void feed(Check t) {
        FilterBench x = new FilterBench();
        x.chain();
        t.due("an empty chain", x.feed(0, 0), NONE);
        t.due("no chain", x.feed(1, 0), NONE);
        t.due("chain -1", x.feed(-1, 0), NONE);
        FilterBench y = one(0, FIXED, 0, 16384);
        t.due("32767", y.feed(0, 32767), 1);
        t.due("32768", y.feed(0, 32768), NONE);
        t.due("-32769", y.feed(0, -32769), NONE);
        t.due("-32768", y.feed(0, -32768), 1);
        outputs(t, y, 0, 32767, -32768);
        FilterBench z = one(6, FLOAT, 1);
        t.due("no int", z.feed(0, 1L << 31), NONE);
        t.due("not a number", z.feed(0, 0x7f812345L), 1);
        t.due("-0.0", z.feed(0, Integer.MIN_VALUE), 1);
        t.due("1", z.feed(0, f(1)), 1);
        outputs(t, z, 0, 0, FLOAT_NAN, Integer.MIN_VALUE);
        FilterBench w = one(6, DOUBLE, 1);
        w.feed(0, -1L);
        t.due("not a number", w.state(0, 0), NAN);
        t.close();
    }

    private static void kinds(Check t) {
        makes(t, one(0, 0, 0, d(3)), in(0.1, -2), in(3 * 0.1, -6));
        makes(t, one(1, 0, 0, d(1), d(-0.5)), in(1, 0, 0), in(1, -0.5, 0.25));
        makes(t, one(2, 0, 0, d(1), d(2), d(3), d(0.5), d(0.25)), in(1, 0, 0, 0), in(1, 1.5, 2, -1.375));
        makes(t, one(3, 0, 0, d(1), d(2), d(3), d(0.5), d(0.25)), in(1, 0, 0, 0), in(1, 1.5, 2, -1.375));
        makes(t, one(4, 0, 0, d(1), d(2), d(3), d(0.5), d(0.25)), in(1, 0, 0, 0), in(1, 1.5, 2, -1.375));
        makes(t, one(5, 0, 0, d(0.5)), in(1, 0, 0), in(0.5, 0.75, -0.375));
        makes(t, one(6, 0, 2), in(1, 2, 3, 4), in(0, 0, 1, 2));
        makes(t, one(7, 0, 3, d(10)), in(1, 2, 3, 4), in(10, 30, 60, 90));
        makes(t, one(7, 0, 3, d(1)), in(1e16, 1, 1, -1e16), in(1e16, 1e16, 1e16, 2 - 1e16));
        makes(t, one(8, 0, 2, d(0.5)), in(8, 1, 0, 0, 0), in(8, 1, 4, 0.5, 2));
        makes(t, one(9, 0, 0, d(2)), in(1, 2, 3, -2, -3, -0.0), in(1, 2, 2, -2, -2, -0.0));
        makes(t, one(9, 0, 0, d(-1)), in(0, -1, -2), in(-1, 1, 1));
        makes(t, one(9, 0, 0, d(0)), in(-5, 5, Double.NaN), in(-0.0, 0, Double.NaN));
        makes(t, one(10, 0, 0, d(2)), in(1, -2, 2.5, -3, -0.0), in(0, 0, 2.5, -3, 0));
        makes(t, one(10, 0, 0, NAN), in(1, Double.NaN), in(1, Double.NaN));
        makes(t, one(11, 0, 0, d(0.5)), in(-8, 1, 3, -0.0, 1), in(8, 4, 2, 1, 0.5));
        makes(t, one(11, 0, 0, d(0.5)), in(8, Double.NaN, Double.NEGATIVE_INFINITY), in(8, 4, Double.POSITIVE_INFINITY));
        FilterBench x = one(9, 0, 0, d(2));
        for (double v : in(1, 2, 3, -2, -3, -4)) {
            x.feed(0, d(v));
        }
        t.due("touches of CLIP", x.about(0, 6), 3);
        FilterBench y = one(10, 0, 0, d(2));
        for (double v : in(1, -2, 3, -3, 0)) {
            y.feed(0, d(v));
        }
        t.due("touches of DEAD", y.about(0, 6), 3);
        FilterBench z = one(1, FLOAT, 0, f(0.1), f(0.7));
        makes(t, z, raw(f(0.3), f(0.9)), raw(f(0.1f * 0.3f), f(0.1f * 0.9f + 0.7f * (0.1f * 0.3f))));
        t.close();
    }

    private static void fixedKinds(Check t) {
        makes(t, one(0, FIXED, 0, 8192), raw(3, -3, 1, -1, 5), raw(2, -1, 1, 0, 3));
        makes(t, one(1, FIXED, 0, 16384, 8192), raw(100, 0, 0, 0), raw(100, 50, 25, 13));
        makes(t, one(2, FIXED, 0, 16384, 0, 0, -16384, 0), raw(1, 1, 1), raw(1, 2, 3));
        makes(t, one(3, FIXED, 0, 16384, 0, 0, -32768, 16384), raw(1, 0, 0, 0), raw(1, 2, 3, 4));
        makes(t, one(4, FIXED, 0, 16384, 0, 0, -32768, 16384), raw(1, 0, 0, 0), raw(1, 2, 3, 4));
        makes(t, one(5, FIXED, 0, 8192), raw(101, 0, 0), raw(51, 76, -37));
        makes(t, one(7, FIXED, 2, 8192), raw(32767, 32767, -32768), raw(16384, 16384, 0));
        makes(t, one(8, FIXED, 1, -16384), raw(5, 0, 1), raw(5, -5, 6));
        makes(t, one(9, FIXED, 0, 100), raw(99, 101, -101, -100), raw(99, 100, -100, -100));
        makes(t, one(9, FIXED, 0, -32768), raw(0, -32768), raw(-32768, 32767));
        makes(t, one(10, FIXED, 0, 32767), raw(-32768, 32767), raw(0, 0));
        makes(t, one(10, FIXED, 0, -1), raw(0, 5), raw(0, 5));
        makes(t, one(11, FIXED, 0, 8192), raw(-32768, 0, 5), raw(32767, 16384, 8192));
        FilterBench x = one(10, FIXED, 0, -1);
        x.feed(0, 0);
        t.due("no size is at most -1", x.about(0, 6), 0);
        FilterBench y = one(9, FIXED, 0, -32768);
        y.feed(0, -32768);
        t.due("a cut is no over", y.about(0, 5), 0);
        FilterBench z = one(7, FIXED, 2, 8192);
        z.feed(0, 32767);
        z.feed(0, 32767);
        t.due("overs of MEAN", z.about(0, 5), 1);
        t.close();
    }

    private static void rates(Check t) {
        FilterBench x = one(12, DOUBLE, 3);
        for (int i = 0; i < 7; i++) {
            t.due("state ahead of " + i, x.state(0, 0), i % 3);
            t.due("feed " + i, x.feed(0, d(i)), i % 3 == 0 ? 1 : 0);
        }
        outputs(t, x, 0, d(0), d(3), d(6));
        FilterBench y = one(13, DOUBLE, 3);
        t.due("feed", y.feed(0, d(-0.0)), 3);
        t.due("feed", y.feed(0, d(2)), 3);
        outputs(t, y, 0, d(-0.0), 0, 0, d(2), 0, 0);
        FilterBench z = one(14, FIXED, 2);
        z.add(0, z.section(1, FIXED, 0));
        z.coefficient(1, 0, 16384);
        z.coefficient(1, 1, 16384);
        z.add(0, z.section(13, FIXED, 2));
        z.add(0, z.section(1, FIXED, 0));
        z.coefficient(3, 0, 16384);
        z.coefficient(3, 1, 16384);
        t.due("feed", z.feed(0, 5), 4);
        outputs(t, z, 0, 5, 5, 15, 15);
        FilterBench w = one(14, DOUBLE, 8);
        w.add(0, w.section(14, DOUBLE, 8));
        w.add(0, w.section(12, DOUBLE, 5));
        t.due("feed", w.feed(0, d(1)), 13);
        t.due("feed", w.feed(0, d(2)), 13);
        t.due("where the first ends", w.output(0, 12), d(1));
        t.due("where the second begins", w.output(0, 13), d(2));
        t.close();
    }

    private static void sums(Check t) {
        FilterBench x = one(0, FIXED, 0, 8192);
        x.rule(0, 1, 0);
        makes(t, x, raw(3, -3, 1, -1), raw(1, -1, 0, 0));
        x.rule(0, 2, 0);
        makes(t, x, raw(3, 3, -1, -1, -1), raw(1, 2, 0, -1, 0));
        t.due("the rest", x.state(0, 100), -8192);
        x.coefficient(0, 0, -32768);
        makes(t, x, raw(-32768, 32767), raw(32767, -32768));
        t.due("overs", x.about(0, 5), 2);
        t.due("the rest stays", x.state(0, 100), -8192);
        x.rule(0, 2, 1);
        makes(t, x, raw(-32768), raw(-1));
        t.due("its lowest bits, the rest", x.state(0, 100), 8192);
        x.rule(0, 0, 1);
        makes(t, x, raw(-16384, 32767, 16384), raw(-32768, 2, -32768));
        t.due("overs", x.about(0, 5), 5);
        t.due("rounding 0 leaves the rest", x.state(0, 100), 8192);
        FilterBench y = one(3, FIXED, 0, 8192, 0, 0, 8192, 0);
        y.rule(0, 2, 0);
        makes(t, y, raw(1, 0), raw(0, 0));
        t.due("one rest for all sums", y.state(0, 100), 0);
        makes(t, y, raw(0, 1), raw(0, 0));
        t.due("one rest for all sums", y.state(0, 100), 8192);
        FilterBench z = one(2, FIXED, 0, 32767, 32767, 32767, -32768, -32768);
        for (int i = 0; i < 3; i++) {
            z.feed(0, 32767);
        }
        t.due("exactly, far above a short", last(z, 0), 32767);
        t.due("overs", z.about(0, 5), 3);
        t.close();
    }

    private static void run(Check t) {
        FilterBench x = one(0, FIXED, 0, 16384);
        int seed = 123456789;
        t.due("run", x.run(0, 100, seed), 100);
        FilterBench y = one(6, DOUBLE, 1);
        FilterBench z = one(6, FLOAT, 1);
        y.run(0, 100, seed);
        z.run(0, 100, seed);
        for (int i = 0; i < 100; i++) {
            short low = (short) seed;
            t.due("short " + i, x.output(0, i), low);
            t.due("double " + i, i == 99 ? y.state(0, 0) : y.output(0, i + 1), d(low / 256.0));
            t.due("float " + i, i == 99 ? z.state(0, 0) : z.output(0, i + 1), f(low / 256.0));
            seed = seed * 1103515245 + 12345;
        }
        t.due("n 0", x.run(0, 0, 1), NONE);
        t.due("n -1", x.run(0, -1, 1), NONE);
        t.due("n 101", x.run(0, 101, 1), NONE);
        t.due("no chain", x.run(1, 1, 1), NONE);
        t.due("chain -1", x.run(-1, 1, 1), NONE);
        x.chain();
        t.due("an empty chain", x.run(1, 1, 1), NONE);
        t.due("nothing came", x.chain(0, 2), 100);
        FilterBench w = one(12, DOUBLE, 8);
        t.due("what came out alone", w.run(0, 100, 5), 13);
        FilterBench v = one(14, DOUBLE, 8);
        v.add(0, v.section(14, DOUBLE, 8));
        t.due("what came out", v.run(0, 100, 5), 6400);
        t.close();
    }

    private static void output(Check t) {
        FilterBench x = one(0, FIXED, 0, 16384);
        for (int i = 0; i < 401; i++) {
            x.feed(0, i + 1);
        }
        t.due("the first, no longer kept", x.output(0, 0), 0);
        t.due("the eldest kept", x.output(0, 1), 2);
        t.due("the latest", x.output(0, 400), 401);
        t.due("none such", x.output(0, 401), 0);
        t.due("-1", x.output(0, -1), 0);
        t.due("the least", x.output(0, Integer.MIN_VALUE), 0);
        t.due("the greatest", x.output(0, Integer.MAX_VALUE), 0);
        t.due("no chain", x.output(1, 0), 0);
        t.due("chain -1", x.output(-1, 0), 0);
        x.reset(0);
        t.due("after a reset", x.output(0, 400), 0);
        x.feed(0, 77);
        t.due("the first since", x.output(0, 0), 77);
        t.due("none such", x.output(0, 1), 0);
        t.close();
    }

    private static void state(Check t) {
        FilterBench x = new FilterBench();
        int[] cells = {0, 1, 4, 2, 2, 1, 3, 3, 3, 0, 0, 1};
        for (int kind = 0; kind < 12; kind++) {
            alone(x, kind, DOUBLE, 3, d(1), d(2), d(3), d(0.5), d(0.25));
            for (int i = 1; i < 6; i++) {
                x.feed(kind, d(i * i * i + 0.5));
            }
            for (int k = -1; k < 6; k++) {
                boolean due = k >= 0 && k < cells[kind];
                t.due("state " + k + " of " + kind + " is there", x.state(kind, k) != 0 ? 1 : 0, due ? 1 : 0);
            }
            t.due("rest of DOUBLE", x.state(kind, 100), 0);
        }
        FilterBench y = one(2, FIXED, 0, 16384, 0, 0, -16384, 0);
        y.feed(0, 3);
        y.feed(0, 5);
        long[] direct = {5, 3, 8, 3};
        for (int k = 0; k < 4; k++) {
            t.due("DIRECT " + k, y.state(0, k), direct[k]);
        }
        FilterBench z = one(6, FIXED, 3);
        alone(z, 7, FIXED, 3, 16384);
        alone(z, 8, FIXED, 3, 16384);
        for (int i = 1; i < 5; i++) {
            for (int c = 0; c < 3; c++) {
                z.feed(c, i);
            }
        }
        for (int k = 0; k < 3; k++) {
            t.due("DELAY " + k, z.state(0, k), k + 2);
            t.due("MEAN " + k, z.state(1, k), k + 2);
            t.due("COMB " + k, z.state(2, k), k == 2 ? 5 : k + 2);
        }
        t.due("DELAY 3", z.state(0, 3), 0);
        FilterBench w = one(12, FIXED, 2);
        t.due("the next goes on", w.state(0, 0), 0);
        w.feed(0, 9);
        t.due("the next does not", w.state(0, 0), 1);
        t.due("no other", w.state(0, 1), 0);
        w.feed(0, 9);
        t.due("the next goes on", w.state(0, 0), 0);
        t.due("no section", w.state(1, 0), 0);
        t.due("section -1", w.state(-1, 100), 0);
        t.close();
    }

    private static void about(Check t) {
        FilterBench x = new FilterBench();
        alone(x, 0, FIXED, 5, 32767);
        x.chain();
        x.add(1, x.section(0, FIXED, 6));
        x.add(1, x.section(15, FIXED, 7));
        x.within(2, 0);
        x.rule(2, 2, 1);
        int[] due = {15, FIXED, 7, 1, 1, 0, 0, 0, 2, 1};
        for (int what = 0; what < due.length; what++) {
            t.due("about " + what, x.about(2, what), due[what]);
        }
        t.due("about 10", x.about(2, 10), NONE);
        t.due("about -1", x.about(2, -1), NONE);
        int loose = x.section(6, FLOAT, 9);
        int[] free = {6, FLOAT, 9, NONE, NONE, 0, 0, NONE, 0, 0};
        for (int what = 0; what < free.length; what++) {
            t.due("about, in no chain, " + what, x.about(loose, what), free[what]);
        }
        for (int what = 0; what < 10; what++) {
            t.due("no section", x.about(4, what), NONE);
            t.due("section -1", x.about(-1, what), NONE);
        }
        x.coefficient(1, 0, 16384);
        for (int i = 0; i < 3; i++) {
            x.feed(1, 32767);
        }
        t.due("overs", x.about(0, 5), 3);
        t.due("no overs", x.about(1, 5), 0);
        t.close();
    }

    private static void told(Check t) {
        FilterBench x = new FilterBench();
        x.section(15, DOUBLE, 0);
        t.due("at first", x.told(0, 1), 0);
        x.coefficient(0, 0, d(-1.5));
        x.coefficient(0, 1, d(2.5));
        t.due("c0", x.told(0, 0), d(-1.5));
        t.due("c1", x.told(0, 1), d(2.5));
        t.due("c2", x.told(0, 2), 0);
        t.due("c-1", x.told(0, -1), 0);
        t.due("no section", x.told(1, 0), 0);
        t.due("section -1", x.told(-1, 0), 0);
        x.section(6, DOUBLE, 5);
        t.due("DELAY has none", x.told(1, 0), 0);
        t.close();
    }

    private static void reset(Check t) {
        FilterBench x = one(1, FIXED, 0, 32767, 8192);
        alone(x, 15, FIXED, 0, 16384, 16384);
        x.add(1, x.section(6, FIXED, 2));
        x.add(1, x.section(12, FIXED, 2));
        x.rule(0, 2, 0);
        x.loop(1, 0, 1, 2, 16384);
        x.within(1, 0);
        x.run(1, 9, 7);
        x.feed(1, 32767);
        x.feed(1, 32767);
        x.feed(1, 32767);
        int overs = x.about(0, 5);
        t.yes("there were overs", overs > 0);
        t.yes("reset", x.reset(1));
        t.due("a state within", x.state(0, 0), 0);
        t.due("a rest within", x.state(0, 100), 0);
        t.due("a delay", x.state(2, 1), 0);
        t.due("a DOWN", x.state(3, 0), 0);
        t.due("the output", x.chain(1, 2), 0);
        t.due("the output within", x.chain(0, 2), 0);
        t.due("overs stay", x.about(0, 5), overs);
        for (int i = 0; i < 3; i++) {
            x.feed(1, 0);
        }
        outputs(t, x, 1, 0, 0);
        t.no("no chain", x.reset(2));
        t.no("chain -1", x.reset(-1));
        x.feed(1, 500);
        x.reset(0);
        t.due("of the inner one alone", x.state(0, 0), 0);
        t.due("its output", x.chain(0, 2), 0);
        t.due("the outer one's state stays", x.state(2, 1) != 0 ? 1 : 0, 1);
        FilterBench y = one(9, DOUBLE, 0, d(1));
        y.feed(0, d(5));
        y.reset(0);
        t.due("touches stay", y.about(0, 6), 1);
        t.close();
    }

    private static void keep(Check t) {
        FilterBench x = new FilterBench();
        t.due("no chain", x.keep(0), NONE);
        x.chain();
        t.due("chain -1", x.keep(-1), NONE);
        for (int i = 0; i < 8; i++) {
            t.due("keep", x.keep(0), i);
        }
        t.due("a ninth", x.keep(0), NONE);
        t.due("kept", x.count(2), 8);
        FilterBench y = one(1, DOUBLE, 0, d(1), d(0.5));
        y.feed(0, d(1));
        y.keep(0);
        y.feed(0, d(4));
        y.keep(0);
        t.yes("the second", y.same(1));
        t.no("the first", y.same(0));
        y.back(0);
        t.due("the first", y.state(0, 0), d(1));
        y.back(1);
        t.due("the second", y.state(0, 0), d(4.5));
        t.close();
    }

    private static void back(Check t) {
        FilterBench x = one(8, FIXED, 3, 8192);
        alone(x, 15, FIXED, 0, 16384, 16384);
        x.add(1, x.section(7, FIXED, 3));
        x.coefficient(2, 0, 5461);
        x.add(1, x.section(12, FIXED, 3));
        x.rule(0, 2, 1);
        x.rule(2, 2, 0);
        x.loop(1, 0, 1, 5, 8192);
        x.within(1, 0);
        x.run(1, 11, 3);
        t.due("keep", x.keep(1), 0);
        long before = x.chain(1, 2);
        x.run(1, 40, 99);
        long after = x.chain(1, 2);
        int overs = x.about(2, 5);
        t.yes("back", x.back(0));
        t.due("the output stays", x.chain(1, 2), after);
        t.due("overs stay", x.about(2, 5), overs);
        x.run(1, 40, 99);
        for (int i = 0; before + i < after; i++) {
            t.due("again " + i, x.output(1, (int) (after + i)), x.output(1, (int) (before + i)));
        }
        t.no("none such", x.back(1));
        t.no("-1", x.back(-1));
        x.loop(1, 0, 0, 1, 0);
        t.no("another loop", x.back(0));
        FilterBench y = one(15, DOUBLE, 0);
        y.keep(0);
        y.add(0, y.section(0, DOUBLE, 0));
        t.no("another section", y.back(0));
        FilterBench z = one(0, DOUBLE, 0, d(1));
        alone(z, 15, DOUBLE, 0);
        alone(z, 15, DOUBLE, 0);
        z.within(2, 1);
        z.keep(2);
        z.keep(1);
        z.within(1, 0);
        t.no("another chain within, deeper", z.back(0));
        t.no("another chain within", z.back(1));
        z.keep(2);
        t.yes("as it is now", z.back(2));
        t.close();
    }

    private static void same(Check t) {
        FilterBench x = one(6, DOUBLE, 2);
        x.keep(0);
        t.yes("at once", x.same(0));
        x.feed(0, d(0));
        t.yes("another 0", x.same(0));
        x.feed(0, d(-0.0));
        t.no("a 0 with a sign", x.same(0));
        x.feed(0, d(0));
        x.feed(0, d(0));
        t.yes("gone by", x.same(0));
        x.loop(0, 0, 0, 1, 0);
        t.no("another loop", x.same(0));
        x.keep(0);
        x.feed(0, d(1));
        x.feed(0, d(0));
        x.feed(0, d(0));
        t.no("the loop's samples", x.same(1));
        x.feed(0, d(0));
        t.yes("gone by", x.same(1));
        t.no("none such", x.same(2));
        t.no("-1", x.same(-1));
        FilterBench y = one(0, FIXED, 0, 8192);
        y.rule(0, 2, 0);
        y.keep(0);
        y.feed(0, 1);
        t.no("another rest", y.same(0));
        y.feed(0, 1);
        t.yes("the output is not looked at", y.same(0));
        FilterBench z = one(1, DOUBLE, 0, d(1), d(0.5));
        alone(z, 15, DOUBLE, 0);
        z.within(1, 0);
        z.keep(1);
        z.feed(1, d(1));
        t.no("a state within", z.same(0));
        z.reset(1);
        t.yes("after a reset", z.same(0));
        z.add(1, z.section(0, DOUBLE, 0));
        t.no("another section", z.same(0));
        t.close();
    }

    private static int polesOf(int kind, int sort, long... factors) {
        return one(kind, sort, 1, factors).poles(0);
    }

    private static int pairOf(int kind, double a, double b) {
        return polesOf(kind, DOUBLE, NAN, NAN, NAN, d(a), d(b));
    }

    private static void poles(Check t) {
        double less = Math.nextDown(1.0);
        double more = Math.nextUp(1.0);
        double tiny = Double.MIN_VALUE;
        double[] sizes = {0, less, 1, more, Double.NaN, Double.POSITIVE_INFINITY};
        int[] due = {1, 1, 2, 0, 0, 0};
        for (int i = 0; i < sizes.length; i++) {
            t.due("POLE " + sizes[i], polesOf(1, DOUBLE, NAN, d(sizes[i])), due[i]);
            t.due("POLE -" + sizes[i], polesOf(1, DOUBLE, NAN, d(-sizes[i])), due[i]);
            t.due("PASS " + sizes[i], polesOf(5, DOUBLE, d(sizes[i])), due[i]);
            t.due("PASS -" + sizes[i], polesOf(5, DOUBLE, d(-sizes[i])), due[i]);
        }
        t.due("POLE of FIXED 16384", polesOf(1, FIXED, 0, -16384), 2);
        t.due("POLE of FIXED 16383", polesOf(1, FIXED, 32767, 16383), 1);
        t.due("POLE of FIXED 16385", polesOf(1, FIXED, 0, 16385), 0);
        t.due("POLE of FLOAT", polesOf(1, FLOAT, 0, f(Math.nextDown(1.0f))), 1);
        t.due("DIRECT of FIXED", polesOf(2, FIXED, 0, 0, 0, 32767, 16384), 2);
        t.due("DIRECT of FIXED", polesOf(2, FIXED, 0, 0, 0, -32768, 16384), 2);
        t.due("DIRECT of FIXED", polesOf(2, FIXED, 0, 0, 0, -32768, 16383), 0);
        t.due("DIRECT of FIXED", polesOf(2, FIXED, 0, 0, 0, 32766, 16383), 1);
        for (int kind = 2; kind <= 4; kind++) {
            for (int sign = -1; sign <= 1; sign += 2) {
                t.due("both at 0", pairOf(kind, 0, 0), 1);
                t.due("product 1", pairOf(kind, sign * 1.5, 1), 2);
                t.due("product 1, sum 2", pairOf(kind, sign * 2, 1), 2);
                t.due("product 1, sum above 2", pairOf(kind, sign * Math.nextUp(2.0), 1), 0);
                t.due("product above 1", pairOf(kind, 0, more), 0);
                t.due("product -1", pairOf(kind, 0, -1), 2);
                t.due("product -1, sum tiny", pairOf(kind, sign * tiny, -1), 0);
                t.due("product below -1", pairOf(kind, 0, -more), 0);
                t.due("a 1, b tiny", pairOf(kind, sign, tiny), 1);
                t.due("a 1, b 0", pairOf(kind, sign, 0), 2);
                t.due("a 1, b -tiny", pairOf(kind, sign, -tiny), 0);
                t.due("a above 1, b tiny", pairOf(kind, sign * more, tiny), 0);
                t.due("a above 1, b as much", pairOf(kind, sign * more, more - 1), 2);
                t.due("a tiny, b above -1", pairOf(kind, sign * tiny, -less), 1);
                t.due("a as b's room", pairOf(kind, sign * (1 - less), -less), 2);
                t.due("a more than b's room", pairOf(kind, sign * Math.nextUp(1 - less), -less), 0);
                t.due("a 0.75, b -0.25", pairOf(kind, sign * 0.75, -0.25), 2);
                t.due("a 0.75, b below -0.25", pairOf(kind, sign * 0.75, Math.nextDown(-0.25)), 0);
                t.due("a 0.75, b above -0.25", pairOf(kind, sign * 0.75, Math.nextUp(-0.25)), 1);
            }
            t.due("not a number", pairOf(kind, Double.NaN, 0), 0);
            t.due("not a number", pairOf(kind, 0, Double.NaN), 0);
            t.due("infinity", pairOf(kind, Double.NEGATIVE_INFINITY, Double.POSITIVE_INFINITY), 0);
        }
        for (int kind : new int[] {0, 6, 7, 8, 9, 10, 11, 12, 13, 14, 15}) {
            t.due("kind " + kind, one(kind, DOUBLE, 2).poles(0), NONE);
        }
        t.due("no section", new FilterBench().poles(0), NONE);
        t.due("section -1", new FilterBench().poles(-1), NONE);
        t.close();
    }

    private static FilterBench dead(long factor, int rounding, int limit) {
        FilterBench x = one(1, FIXED, 0, 12345, factor);
        x.rule(0, rounding, limit);
        return x;
    }

    private static void cycles(Check t) {
        t.due("towards 0", dead(8192, 1, 0).cycles(0), 1);
        t.due("halves upwards", dead(8192, 0, 0).cycles(0), 2);
        t.due("each its own", dead(16384, 0, 0).cycles(0), 65536);
        t.due("each with its negative", dead(-16384, 1, 0).cycles(0), 32768);
        t.due("the lowest bits", dead(-16384, 1, 1).cycles(0), 32769);
        t.due("by two, cut", dead(-32768, 0, 0).cycles(0), 2);
        t.due("no factor", dead(0, 0, 0).cycles(0), 1);
        t.due("rounding 2", dead(8192, 2, 0).cycles(0), NONE);
        t.due("no section", dead(8192, 0, 0).cycles(1), NONE);
        t.due("section -1", dead(8192, 0, 0).cycles(-1), NONE);
        t.due("of DOUBLE", one(1, DOUBLE, 0).cycles(0), NONE);
        t.due("of FLOAT", one(1, FLOAT, 0).cycles(0), NONE);
        t.due("another kind", one(5, FIXED, 0).cycles(0), NONE);
        FilterBench x = dead(8192, 0, 0);
        t.due("as it is", x.cycles(0), 2);
        int other = x.section(1, FIXED, 0);
        t.due("of another section", x.cycles(other), 1);
        t.due("of the first again", x.cycles(0), 2);
        t.due("no overs of it", x.about(0, 5), 0);
        t.due("no state of it", x.state(0, 0), 0);
        t.close();
    }

    private static void cycleIs(Check t, FilterBench x, int k, int least, int length, int basin) {
        t.due("least of " + k, x.cycle(0, k, 0), least);
        t.due("length of " + k, x.cycle(0, k, 1), length);
        t.due("how many lead to " + k, x.cycle(0, k, 2), basin);
    }

    private static void cycle(Check t) {
        FilterBench x = dead(8192, 0, 0);
        cycleIs(t, x, 0, 0, 1, 32769);
        cycleIs(t, x, 1, 1, 1, 32767);
        for (int what = 0; what < 3; what++) {
            t.due("a third", x.cycle(0, 2, what), 0);
        }
        t.due("-1", x.cycle(0, -1, 1), 0);
        t.due("what 3", x.cycle(0, 0, 3), 0);
        t.due("what -1", x.cycle(0, 0, -1), 0);
        t.due("no section", x.cycle(1, 0, 1), 0);
        x.rule(0, 2, 0);
        t.due("rounding 2", x.cycle(0, 0, 1), 0);
        FilterBench y = dead(-16384, 1, 0);
        cycleIs(t, y, 0, -32767, 2, 3);
        cycleIs(t, y, 1, -32766, 2, 2);
        cycleIs(t, y, 32767, 0, 1, 1);
        t.due("none such", x.cycle(0, 32768, 1), 0);
        t.due("none such", y.cycle(0, 32768, 0), 0);
        t.due("none such", y.cycle(0, 32768, 1), 0);
        FilterBench z = dead(-16384, 1, 1);
        cycleIs(t, z, 0, -32768, 1, 1);
        cycleIs(t, z, 1, -32767, 2, 2);
        FilterBench w = dead(-32768, 0, 0);
        cycleIs(t, w, 0, -32768, 2, 65535);
        cycleIs(t, w, 1, 0, 1, 1);
        FilterBench v = dead(-20000, 1, 1);
        int all = 0;
        int before = Integer.MIN_VALUE;
        int found = v.cycles(0);
        for (int k = 0; k < found && k < 100; k++) {
            all += v.cycle(0, k, 2);
            t.yes("from the least on", v.cycle(0, k, 0) > before);
            before = v.cycle(0, k, 0);
        }
        t.due("each leads to one", all, 65536);
        t.close();
    }

    private static void convert(Check t) {
        FilterBench x = new FilterBench();
        x.chain();
        t.due("no section", x.convert(0, 0), NONE);
        t.due("no chain", x.convert(1, 0), NONE);
        t.due("chain -1", x.convert(-1, 0), NONE);
        x.add(0, x.section(2, FIXED, -7));
        x.add(0, x.section(9, FIXED, 0));
        x.add(0, x.section(8, FIXED, 4));
        t.due("sort 3", x.convert(0, 3), NONE);
        t.due("sort -1", x.convert(0, -1), NONE);
        x.coefficient(0, 1, -8192);
        x.coefficient(1, 0, 300);
        x.rule(0, 2, 1);
        x.loop(0, 0, 2, 7, 24576);
        x.run(0, 5, 5);
        t.due("to FIXED", x.convert(0, FIXED), 1);
        t.due("to DOUBLE", x.convert(0, DOUBLE), 2);
        t.due("to FLOAT", x.convert(0, FLOAT), 3);
        t.due("back from FLOAT", x.convert(3, FIXED), 4);
        t.due("sections", x.count(0), 15);
        t.due("coefficient of DOUBLE", x.told(6, 1), d(-0.5));
        t.due("the short itself", x.told(7, 0), d(300));
        t.due("coefficient of FLOAT", x.told(9, 1), f(-0.5));
        t.due("the short itself", x.told(10, 0), f(300));
        t.due("back again", x.told(12, 1), -8192);
        t.due("back again", x.told(13, 0), 300);
        t.due("kind", x.about(8, 0), 8);
        t.due("length", x.about(8, 2), 4);
        t.due("a length not looked at", x.about(3, 2), -7);
        t.due("place", x.about(8, 4), 2);
        t.due("rounding from FIXED to FIXED", x.about(3, 8), 2);
        t.due("limit from FIXED to FIXED", x.about(3, 9), 1);
        t.due("rounding from FLOAT", x.about(12, 8), 0);
        t.due("limit from FLOAT", x.about(12, 9), 0);
        t.due("its states", x.state(3, 0), 0);
        t.due("its output", x.chain(1, 2), 0);
        t.due("its loops", x.chain(2, 1), 1);
        FilterBench y = one(0, DOUBLE, 0, d(2.5 / 16384));
        y.convert(0, FIXED);
        t.due("halves to the even one", y.told(1, 0), 2);
        y.coefficient(0, 0, d(-2));
        t.due("-2", y.convert(0, FIXED), 2);
        y.coefficient(0, 0, d(2));
        t.due("2", y.convert(0, FIXED), NONE);
        y.coefficient(0, 0, NAN);
        t.due("not a number", y.convert(0, FIXED), NONE);
        y.coefficient(0, 0, d(Double.NEGATIVE_INFINITY));
        t.due("infinity", y.convert(0, FIXED), NONE);
        t.due("nothing happens", y.count(0) * 100 + y.count(1), 303);
        t.due("infinity to FLOAT", y.convert(0, FLOAT), 3);
        t.due("infinity to FLOAT", y.told(3, 0), f(Double.NEGATIVE_INFINITY));
        y.coefficient(0, 0, d(0.25));
        y.loop(0, 0, 0, 1, d(-2.1));
        t.due("a loop's coefficient", y.convert(0, FIXED), NONE);
        t.close();
    }

    private static void convertTree(Check t) {
        FilterBench x = new FilterBench();
        alone(x, 0, FLOAT, 0, f(0.25));
        alone(x, 15, FLOAT, 0, f(1), f(1));
        x.chain();
        x.add(2, x.section(0, FLOAT, 0));
        x.add(2, x.section(15, FLOAT, 0));
        x.coefficient(2, 0, f(2));
        x.coefficient(3, 0, f(1));
        x.coefficient(3, 1, f(1));
        x.within(1, 0);
        x.within(3, 1);
        x.loop(2, 0, 1, 1, f(0.5));
        t.due("within a mix", x.convert(1, FIXED), NONE);
        t.due("2 in FIXED", x.convert(2, FIXED), NONE);
        t.due("of the whole", x.convert(2, DOUBLE), 5);
        int[] kinds = {0, 0, 15, 15};
        int[] chains = {5, 3, 4, 5};
        for (int i = 0; i < 4; i++) {
            t.due("kind " + i, x.about(4 + i, 0), kinds[i]);
            t.due("chain " + i, x.about(4 + i, 3), chains[i]);
        }
        t.due("within", x.about(6, 7), 3);
        t.due("within", x.about(7, 7), 4);
        t.due("within", x.chain(3, 3), 6);
        x.feed(2, f(3));
        x.feed(5, d(3));
        t.due("what it makes", last(x, 2), f(13.5));
        t.due("what it makes anew", last(x, 5), d(13.5));
        t.due("what is within makes", x.output(3, 0), d(1.5));
        for (int i = 0; i < 4; i++) {
            t.due("once more", x.convert(2, FLOAT), 8 + 3 * i);
        }
        t.due("too many chains", x.convert(2, FLOAT), NONE);
        t.due("chains", x.count(1), 18);
        FilterBench y = new FilterBench();
        y.chain();
        for (int i = 0; i < 10; i++) {
            y.add(0, y.section(0, DOUBLE, 0));
        }
        for (int i = 0; i < 5; i++) {
            t.due("once more", y.convert(0, DOUBLE), i + 1);
        }
        t.due("too many sections", y.convert(0, DOUBLE), NONE);
        t.due("sections", y.count(0), 60);
        t.due("chains", y.count(1), 6);
        t.close();
    }

    private static void measure(Check t) {
        FilterBench x = one(0, DOUBLE, 0, d(1));
        for (int what = 0; what < 3; what++) {
            t.due("without any", x.measure(0, what), 0);
        }
        double[] fed = {0, 3, -0.0, 0, 0, 2, -5, Double.NaN, -1, 0, 4, 0.0, -0.0};
        for (double v : fed) {
            x.feed(0, d(v));
        }
        t.due("the greatest size", x.measure(0, 0), d(5));
        t.due("sign changes", x.measure(0, 1), 2);
        t.due("the longest row of 0s", x.measure(0, 2), 3);
        t.due("what 3", x.measure(0, 3), 0);
        t.due("what -1", x.measure(0, -1), 0);
        t.due("no chain", x.measure(1, 0), 0);
        t.due("chain -1", x.measure(-1, 0), 0);
        x.feed(0, d(Double.NEGATIVE_INFINITY));
        t.due("infinity", x.measure(0, 0), d(Double.POSITIVE_INFINITY));
        for (int i = 0; i < 4; i++) {
            x.run(0, 100, 1);
        }
        t.yes("of what is kept alone", x.measure(0, 0) != d(Double.POSITIVE_INFINITY));
        FilterBench y = one(0, DOUBLE, 0, d(1));
        y.feed(0, NAN);
        t.due("not a number alone", y.measure(0, 0), 0);
        t.due("not a number is no 0", y.measure(0, 2), 0);
        FilterBench z = one(14, FIXED, 8);
        z.feed(0, 0);
        z.feed(0, -7);
        z.feed(0, 5);
        t.due("of FIXED the number", z.measure(0, 0), 7);
        t.due("of FIXED", z.measure(0, 1), 1);
        t.due("of FIXED", z.measure(0, 2), 8);
        z.feed(0, -32768);
        t.due("a size of FIXED is cut to a short", z.measure(0, 0), 32767);
        x.chain();
        t.due("an empty chain", x.measure(1, 0), 0);
        t.close();
    }

    private static void count(Check t) {
        FilterBench x = new FilterBench();
        alone(x, 0, DOUBLE, 0);
        x.section(0, DOUBLE, 0);
        x.section(0, DOUBLE, 0);
        x.chain();
        x.keep(0);
        t.due("sections", x.count(0), 3);
        t.due("chains", x.count(1), 2);
        t.due("kept", x.count(2), 1);
        t.due("what 3", x.count(3), NONE);
        t.due("what -1", x.count(-1), NONE);
        t.close();
    }

    private static void chainWhat(Check t) {
        FilterBench x = one(0, FLOAT, 0, f(1));
        alone(x, 15, FLOAT, 0);
        x.add(1, x.section(0, FLOAT, 0));
        x.loop(1, 0, 1, 3, 0);
        x.within(1, 0);
        x.run(1, 7, 7);
        int[] inner = {1, 0, 7, 1, FLOAT};
        int[] outer = {2, 1, 7, NONE, FLOAT};
        for (int what = 0; what < 5; what++) {
            t.due("of the inner one " + what, x.chain(0, what), inner[what]);
            t.due("of the outer one " + what, x.chain(1, what), outer[what]);
            t.due("no chain", x.chain(2, what), NONE);
            t.due("chain -1", x.chain(-1, what), NONE);
        }
        t.due("what 5", x.chain(0, 5), NONE);
        t.due("what -1", x.chain(0, -1), NONE);
        x.chain();
        t.due("without sections", x.chain(2, 4), NONE);
        t.due("without sections", x.chain(2, 0), 0);
        t.close();
    }
}
