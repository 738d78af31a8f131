/** The boundary cases of "Terms" II: what the kinds make, at the edges of their lengths, states and coefficients. */
public final class KindEdgesTest extends Edges {
    /** Two, just above it and just below it, in each sort. */
    private static final long[] TWO = {d(2), f(2), 2};
    private static final long[] ABOVE_TWO = {d(Math.nextUp(2.0)), f(Math.nextUp(2.0f)), 3};
    private static final long[] BELOW_TWO = {d(Math.nextDown(2.0)), f(Math.nextDown(2.0f)), 1};

    public static void main(String[] args) {
        test("II coefficients are 0 at first", KindEdgesTest::coefficientsAtFirst);
        test("II states are 0 at first", KindEdgesTest::statesAtFirst);
        test("II 0 is +0.0", KindEdgesTest::positiveZero);
        test("II POLE: the y ahead", KindEdgesTest::pole);
        test("II DIRECT: two samples, two y ahead", KindEdgesTest::direct);
        test("II SECOND: two w ahead", KindEdgesTest::second);
        test("II TURNED: s1 of the new y", KindEdgesTest::turned);
        test("II PASS: the w ahead", KindEdgesTest::pass);
        test("II DELAY: n samples ago, 0 where there was none", KindEdgesTest::delay);
        test("II MEAN: its latest n samples", KindEdgesTest::mean);
        test("II MEAN: 0s where there were none", KindEdgesTest::meanZeros);
        test("II MEAN: the eldest first", KindEdgesTest::meanEldest);
        test("II MEAN: the sum alone is a sum of its own", KindEdgesTest::meanSum);
        test("II COMB: the y of n samples ago", KindEdgesTest::comb);
        test("II CLIP: above c0, below -c0", KindEdgesTest::clip);
        test("II CLIP: 0s, a c0 below 0, what is not a number", KindEdgesTest::clipOdd);
        test("II CLIP of FIXED: -c0 is cut to a short", KindEdgesTest::clipCut);
        test("II DEAD: a size that is at most c0", KindEdgesTest::dead);
        test("II DEAD: 0s, a c0 below 0, what is not a number", KindEdgesTest::deadOdd);
        test("II DEAD of FIXED: a size is cut to a short", KindEdgesTest::deadCut);
        test("II CLIP and DEAD of FIXED: c0 means the short itself", KindEdgesTest::shortItself);
        test("II PEAK: a size above s", KindEdgesTest::peak);
        test("II PEAK: a size has no sign", KindEdgesTest::peakSign);
        test("II PEAK of FIXED: a size is cut to a short", KindEdgesTest::peakCut);
        test("II DOWN: of n samples the first", KindEdgesTest::down);
        test("II UP: then n - 1 times 0", KindEdgesTest::up);
        test("II HOLD: n times", KindEdgesTest::hold);
        test("II MIX: what the chain within it makes of x", KindEdgesTest::mix);
        test("II MIX without a chain within it: c1 * 0", KindEdgesTest::mixAlone);
        test("II one rest for each sum, in the order told", KindEdgesTest::oneRest);
        test("II each section has a rest of its own", KindEdgesTest::ownRest);
        Check.end();
    }

    private static void coefficientsAtFirst(Check t) {
        for (int sort = 0; sort < 3; sort++) {
            Bench x = new Bench();
            for (int kind = 0; kind < 16; kind++) {
                x.section(kind, sort, 2);
                for (int k = 0; k < 6; k++) {
                    t.due("coefficient " + k + " of " + kind + " in " + sort, x.told(kind, k), 0);
                }
            }
        }
        makes(t, "GAIN", alone(GAIN, DOUBLE, 0), raw(d(5), d(-5)), raw(0, d(-0.0)));
        makes(t, "CLIP", alone(CLIP, FIXED, 0), raw(5, 0, -5), raw(0, 0, 0));
        makes(t, "DEAD", alone(DEAD, FIXED, 0), raw(5, 0, -5), raw(5, 0, -5));
    }

    private static void statesAtFirst(Check t) {
        for (int sort = 0; sort < 3; sort++) {
            for (int kind = 0; kind < 16; kind++) {
                Bench x = alone(kind, sort, 8);
                for (int k = 0; k < 9; k++) {
                    t.due("state " + k + " of " + kind + " in " + sort, x.state(0, k), 0);
                }
                t.due("rest of " + kind + " in " + sort, x.state(0, 100), 0);
            }
        }
    }

    private static void positiveZero(Check t) {
        long minus = d(-0.0);
        t.due("POLE", alone(POLE, DOUBLE, 0, d(1), d(1)).of(0, minus), 0);
        t.due("POLE, c1 below 0", alone(POLE, DOUBLE, 0, d(1), d(-1)).of(0, minus), minus);
        t.due("DELAY", alone(DELAY, DOUBLE, 1).of(0, minus), 0);
        t.due("COMB", alone(COMB, DOUBLE, 1, d(1)).of(0, minus), 0);
        t.due("COMB, c0 below 0", alone(COMB, DOUBLE, 1, d(-1)).of(0, minus), minus);
        t.due("DEAD", alone(DEAD, DOUBLE, 0).of(0, minus), 0);
        t.due("DEAD of FLOAT", alone(DEAD, FLOAT, 0).of(0, f(-0.0)), 0);
        Bench x = alone(UP, DOUBLE, 2);
        x.feed(0, minus);
        outputs(t, "UP", x, 0, minus, 0);
    }

    private static void pole(Check t) {
        Bench x = alone(POLE, DOUBLE, 0, d(2), d(3));
        makes(t, "of DOUBLE", x, raw(d(1), d(0), d(1)), raw(d(2), d(6), d(20)));
        states(t, "of DOUBLE", x, 0, d(20), 0);
        makes(t, "of FIXED", alone(POLE, FIXED, 0, WHOLE, -8192), raw(8, 0, 0, 0, 0, 0), raw(8, -4, 2, -1, 1, 0));
    }

    private static void direct(Check t) {
        Bench x = alone(DIRECT, DOUBLE, 0, d(1), d(2), d(4), d(-1), d(-3));
        makes(t, "of DOUBLE", x, raw(d(1), d(0), d(0), d(0)), raw(d(1), d(3), d(10), d(19)));
        states(t, "of DOUBLE", x, 0, 0, 0, d(19), d(10), 0);
        Bench y = alone(DIRECT, DOUBLE, 0, d(1));
        y.feedAll(0, d(1), d(2), d(3));
        states(t, "the latest first", y, 0, d(3), d(2), d(3), d(2), 0);
    }

    private static void second(Check t) {
        Bench x = alone(SECOND, DOUBLE, 0, d(1), d(2), d(4), d(-1), d(-3));
        makes(t, "of DOUBLE", x, raw(d(1), d(0), d(0)), raw(d(1), d(3), d(10)));
        states(t, "of DOUBLE", x, 0, d(4), d(1), 0);
        makes(t, "of DOUBLE", x, raw(d(0)), raw(d(19)));
    }

    private static void turned(Check t) {
        Bench x = alone(TURNED, DOUBLE, 0, d(1), d(2), d(4), d(-1), d(-3));
        makes(t, "of DOUBLE", x, raw(d(1)), raw(d(1)));
        states(t, "of DOUBLE", x, 0, d(3), d(7), 0);
        makes(t, "of DOUBLE", x, raw(d(0)), raw(d(3)));
        states(t, "s0 of the s1 ahead", x, 0, d(10), d(9), 0);
        makes(t, "of DOUBLE", x, raw(d(0), d(0)), raw(d(10), d(19)));
    }

    private static void pass(Check t) {
        Bench x = alone(PASS, DOUBLE, 0, d(0.5));
        makes(t, "of DOUBLE", x, raw(d(4), d(0), d(0)), raw(d(2), d(3), d(-1.5)));
        states(t, "of DOUBLE", x, 0, d(1), 0);
        Bench y = alone(PASS, FIXED, 0, -32768);
        makes(t, "of FIXED", y, raw(1, 0, 0), raw(-2, -3, -6));
        states(t, "of FIXED", y, 0, 4, 0);
    }

    /** A chain that gets 1 and then 0s: whether it makes the one that is due at a place, and 0s at the others. */
    private static void once(Check t, String what, Bench x, int samples, int at, long due) {
        x.feed(0, 1);
        for (int i = 1; i < samples; i++) {
            x.feed(0, 0);
        }
        t.due(what + ": how many", x.chain(0, 2), samples);
        for (int i = 0; i < samples; i++) {
            t.due(what + ": " + i, x.output(0, i), i == at ? due : 0);
        }
    }

    private static void delay(Check t) {
        int[] lengths = {1, 2, 63, 64};
        for (int n : lengths) {
            once(t, "DELAY " + n, alone(DELAY, FIXED, n), n + 3, n, 1);
        }
        Bench x = alone(DELAY, DOUBLE, 64);
        for (int i = 1; i <= 130; i++) {
            x.feed(0, d(i));
        }
        t.due("the 64th", x.output(0, 63), 0);
        for (int i = 65; i <= 130; i++) {
            t.due("the " + i + "th", x.output(0, i - 1), d(i - 64));
        }
    }

    private static void mean(Check t) {
        int[] lengths = {1, 2, 31, 32};
        for (int n : lengths) {
            Bench x = alone(MEAN, FIXED, n, WHOLE);
            x.feed(0, 1);
            for (int i = 0; i <= n; i++) {
                t.due("MEAN " + n + " at " + i, x.last(0), i < n ? 1 : 0);
                x.feed(0, 0);
            }
            for (int i = 1; i <= 2 * n; i++) {
                t.due("all of " + n + " that came", x.of(0, 1), Math.min(i, n));
            }
        }
    }

    private static void meanZeros(Check t) {
        t.due("no other than itself", alone(MEAN, DOUBLE, 1, d(1)).of(0, d(-0.0)), d(-0.0));
        t.due("a 0 ahead of it", alone(MEAN, DOUBLE, 2, d(1)).of(0, d(-0.0)), 0);
        Bench x = alone(MEAN, DOUBLE, 2, d(1));
        x.feed(0, d(-0.0));
        t.due("two that came", x.of(0, d(-0.0)), d(-0.0));
        Bench y = alone(MEAN, FLOAT, 32, f(1));
        for (int i = 0; i < 31; i++) {
            t.due("a 0 ahead of " + i, y.of(0, f(-0.0)), 0);
        }
        t.due("32 that came", y.of(0, f(-0.0)), f(-0.0));
    }

    private static void meanEldest(Check t) {
        makes(t, "of DOUBLE", alone(MEAN, DOUBLE, 3, d(1)), raw(d(1e16), d(1), d(1), d(1e16)),
                raw(d(1e16), d(1e16), d(1e16), d(1e16 + 2)));
        makes(t, "of FLOAT", alone(MEAN, FLOAT, 3, f(1)), raw(f(0x1p24), f(1), f(1), f(0x1p24)),
                raw(f(0x1p24), f(0x1p24), f(0x1p24), f(0x1p24 + 2)));
    }

    private static void meanSum(Check t) {
        Bench x = fixed(MEAN, 0, 0, 8192);
        makes(t, "cut ahead of c0", x, raw(32767, 1, 0, -32768, -32768), raw(16384, 16384, 1, -16384, -16384));
        t.due("overs", x.about(0, 5), 2);
        Bench y = fixed(MEAN, 0, 1, 8192);
        makes(t, "the lowest bits ahead of c0", y, raw(32767, 1), raw(16384, -16384));
        t.due("an over", y.about(0, 5), 1);
        makes(t, "rounded ahead of c0", alone(MEAN, DOUBLE, 2, d(0.5)), raw(d(1e16), d(1)), raw(d(5e15), d(5e15)));
    }

    private static void comb(Check t) {
        int[] lengths = {1, 2, 63, 64};
        for (int n : lengths) {
            Bench x = alone(COMB, FIXED, n, -WHOLE);
            x.feed(0, 3);
            for (int i = 1; i <= 2 * n; i++) {
                t.due("COMB " + n + " at " + i, x.of(0, 0), i == n ? -3 : i == 2 * n ? 3 : 0);
            }
        }
    }

    private static void clip(Check t) {
        for (int sort = 0; sort < 3; sort++) {
            long minus = sort == DOUBLE ? Long.MIN_VALUE : sort == FLOAT ? LEAST : 0;
            long[] in = {BELOW_TWO[sort], TWO[sort], ABOVE_TWO[sort]};
            for (int i = 0; i < 3; i++) {
                Bench x = alone(CLIP, sort, 0, TWO[sort]);
                t.due("in " + sort + " sample " + i, x.of(0, in[i]), i == 2 ? TWO[sort] : in[i]);
                t.due("in " + sort + " touches of " + i, x.about(0, 6), i == 2 ? 1 : 0);
                Bench y = alone(CLIP, sort, 0, TWO[sort]);
                long below = sort == FIXED ? -in[i] : minus | in[i];
                long two = sort == FIXED ? -2 : minus | TWO[sort];
                t.due("in " + sort + " sample -" + i, y.of(0, below), i == 2 ? two : below);
                t.due("in " + sort + " touches of -" + i, y.about(0, 6), i == 2 ? 1 : 0);
            }
        }
        makes(t, "infinities", alone(CLIP, DOUBLE, 0, d(2)), raw(INFINITY, d(Double.NEGATIVE_INFINITY)), raw(d(2), d(-2)));
    }

    private static void clipOdd(Check t) {
        Bench x = alone(CLIP, DOUBLE, 0, d(0));
        makes(t, "0s are neither above nor below", x, raw(0, d(-0.0), NAN), raw(0, d(-0.0), NAN));
        t.due("no touches", x.about(0, 6), 0);
        makes(t, "the least ones are", x, raw(1, Long.MIN_VALUE + 1), raw(0, d(-0.0)));
        t.due("touches", x.about(0, 6), 2);
        makes(t, "-0.0 as c0", alone(CLIP, DOUBLE, 0, d(-0.0)), raw(1, 0, d(-0.0), Long.MIN_VALUE + 1),
                raw(d(-0.0), 0, d(-0.0), 0));
        Bench y = alone(CLIP, DOUBLE, 0, d(-2));
        makes(t, "c0 below 0: above it first", y, raw(d(3), d(0), d(-2), d(-3)), raw(d(-2), d(-2), d(2), d(2)));
        t.due("touches", y.about(0, 6), 4);
        Bench z = alone(CLIP, DOUBLE, 0, NAN);
        makes(t, "nothing is above what is not a number", z, raw(INFINITY, d(-1), NAN), raw(INFINITY, d(-1), NAN));
        t.due("no touches", z.about(0, 6), 0);
        Bench w = alone(CLIP, FLOAT, 0, FLOAT_INFINITY);
        makes(t, "nothing is above infinity", w, raw(FLOAT_INFINITY, f(Float.NEGATIVE_INFINITY), FLOAT_NAN),
                raw(FLOAT_INFINITY, f(Float.NEGATIVE_INFINITY), FLOAT_NAN));
        t.due("no touches of FLOAT", w.about(0, 6), 0);
    }

    private static void clipCut(Check t) {
        Bench x = alone(CLIP, FIXED, 0, -32768);
        makes(t, "-c0 is 32767", x, raw(-32768, -32767, 32767), raw(32767, -32768, -32768));
        t.due("touches", x.about(0, 6), 3);
        t.due("a cut is no over", x.about(0, 5), 0);
        Bench y = alone(CLIP, FIXED, 0, -32767);
        makes(t, "-c0 is 32767 without a cut", y, raw(-32768, -32767, -32766), raw(32767, 32767, -32767));
        Bench z = alone(CLIP, FIXED, 0, 32767);
        makes(t, "-c0 is -32767", z, raw(32767, -32767, -32768), raw(32767, -32767, -32767));
        t.due("touches", z.about(0, 6), 1);
        Bench w = fixed(CLIP, 0, 1, -32768);
        t.due("by limit 0, whatever the section's", w.of(0, -32768), 32767);
    }

    private static void dead(Check t) {
        for (int sort = 0; sort < 3; sort++) {
            long minus = sort == DOUBLE ? Long.MIN_VALUE : LEAST;
            long[] in = {BELOW_TWO[sort], TWO[sort], ABOVE_TWO[sort]};
            for (int i = 0; i < 3; i++) {
                Bench x = alone(DEAD, sort, 0, TWO[sort]);
                t.due("in " + sort + " sample " + i, x.of(0, in[i]), i == 2 ? in[i] : 0);
                t.due("in " + sort + " touches of " + i, x.about(0, 6), i == 2 ? 0 : 1);
                Bench y = alone(DEAD, sort, 0, TWO[sort]);
                long below = sort == FIXED ? -in[i] : minus | in[i];
                t.due("in " + sort + " sample -" + i, y.of(0, below), i == 2 ? below : 0);
                t.due("in " + sort + " touches of -" + i, y.about(0, 6), i == 2 ? 0 : 1);
            }
        }
    }

    private static void deadOdd(Check t) {
        Bench x = alone(DEAD, DOUBLE, 0, d(-0.0));
        makes(t, "0s are at most 0", x, raw(0, d(-0.0), 1, Long.MIN_VALUE + 1), raw(0, 0, 1, Long.MIN_VALUE + 1));
        t.due("touches", x.about(0, 6), 2);
        Bench y = alone(DEAD, DOUBLE, 0, d(-Double.MIN_VALUE));
        makes(t, "no size is below 0", y, raw(0, d(-0.0), NAN), raw(0, d(-0.0), NAN));
        t.due("no touches", y.about(0, 6), 0);
        Bench z = alone(DEAD, DOUBLE, 0, INFINITY);
        makes(t, "all but what is not a number", z, raw(d(Double.NEGATIVE_INFINITY), INFINITY, NAN), raw(0, 0, NAN));
        t.due("touches by infinity", z.about(0, 6), 2);
        Bench w = alone(DEAD, FLOAT, 0, FLOAT_NAN);
        makes(t, "nothing is at most what is not a number", w, raw(0, f(-0.0), FLOAT_NAN), raw(0, f(-0.0), FLOAT_NAN));
        t.due("no touches of FLOAT", w.about(0, 6), 0);
        Bench v = alone(DEAD, FIXED, 0, -1);
        makes(t, "of FIXED", v, raw(0, 1, -1), raw(0, 1, -1));
        t.due("no touches of FIXED", v.about(0, 6), 0);
        v.coefficient(0, 0, 0);
        makes(t, "of FIXED, by 0", v, raw(0, 1, -1), raw(0, 1, -1));
        t.due("touches of FIXED", v.about(0, 6), 1);
    }

    private static void deadCut(Check t) {
        Bench x = alone(DEAD, FIXED, 0, 32767);
        makes(t, "all sizes", x, raw(32767, -32767, -32768), raw(0, 0, 0));
        t.due("touches", x.about(0, 6), 3);
        t.due("a cut is no over", x.about(0, 5), 0);
        Bench y = alone(DEAD, FIXED, 0, 32766);
        makes(t, "all but the greatest", y, raw(32767, -32767, -32768, 32766, -32766), raw(32767, -32767, -32768, 0, 0));
        t.due("touches", y.about(0, 6), 2);
        t.due("by limit 0, whatever the section's", fixed(DEAD, 0, 1, 32767).of(0, -32768), 0);
    }

    private static void shortItself(Check t) {
        makes(t, "CLIP 1", alone(CLIP, FIXED, 0, 1), raw(0, 1, 2, -1, -2), raw(0, 1, 1, -1, -1));
        makes(t, "CLIP 16384", alone(CLIP, FIXED, 0, WHOLE), raw(16384, 16385, 1), raw(16384, 16384, 1));
        makes(t, "DEAD 1", alone(DEAD, FIXED, 0, 1), raw(0, 1, 2, -1, -2), raw(0, 0, 2, 0, -2));
        makes(t, "DEAD 16384", alone(DEAD, FIXED, 0, WHOLE), raw(16384, 16385, 1), raw(0, 16385, 0));
    }

    private static void peak(Check t) {
        for (int sort = 0; sort < 3; sort++) {
            Bench x = alone(PEAK, sort, 0, sort == FIXED ? 8192 : sort == FLOAT ? f(0.5) : d(0.5));
            long one = sample(sort, 1);
            makes(t, "of sort " + sort, x, raw(TWO[sort], TWO[sort], ABOVE_TWO[sort]), raw(TWO[sort], one, ABOVE_TWO[sort]));
            states(t, "of sort " + sort, x, 0, ABOVE_TWO[sort], 0);
            Bench y = alone(PEAK, sort, 0, one(sort));
            makes(t, "as great as s", y, raw(TWO[sort], TWO[sort], BELOW_TWO[sort]), raw(TWO[sort], TWO[sort], TWO[sort]));
        }
        Bench z = alone(PEAK, DOUBLE, 0, d(0.5));
        makes(t, "what is not a number is not above", z, raw(d(8), NAN, d(1)), raw(d(8), d(4), d(2)));
        Bench w = alone(PEAK, DOUBLE, 0, NAN);
        makes(t, "nothing is above what is not a number", w, raw(d(8), d(8), INFINITY), raw(d(8), NAN, NAN));
    }

    private static void peakSign(Check t) {
        Bench x = alone(PEAK, DOUBLE, 0, d(-1));
        makes(t, "0.0 is not above 0.0", x, raw(d(-0.0), d(-0.0)), raw(d(-0.0), 0));
        makes(t, "of samples below 0", alone(PEAK, DOUBLE, 0, d(0.5)), raw(d(-8), d(-4), d(-5)), raw(d(8), d(4), d(5)));
        makes(t, "of FLOAT", alone(PEAK, FLOAT, 0, f(0.5)), raw(f(-8), f(-4), f(-5)), raw(f(8), f(4), f(5)));
        makes(t, "of FIXED", alone(PEAK, FIXED, 0, 8192), raw(-8, -4, -5), raw(8, 4, 5));
        makes(t, "infinity", alone(PEAK, DOUBLE, 0, d(0.5)), raw(d(Double.NEGATIVE_INFINITY)), raw(INFINITY));
    }

    private static void peakCut(Check t) {
        Bench x = alone(PEAK, FIXED, 0, WHOLE);
        makes(t, "of the least short", x, raw(-32767, -32768, 32767), raw(32767, 32767, 32767));
        Bench y = fixed(PEAK, 0, 1, -WHOLE);
        makes(t, "by limit 0, whatever the section's", y, raw(-32768, 0), raw(32767, -32767));
        t.due("a cut is no over", y.about(0, 5), 0);
        Bench z = alone(PEAK, FIXED, 0, -32768);
        makes(t, "c0 * s is a sum", z, raw(-32768, 0, 0), raw(32767, -32768, 0));
        t.due("its over", z.about(0, 5), 1);
    }

    private static void down(Check t) {
        int[] lengths = {2, 3, 7, 8};
        for (int n : lengths) {
            Bench x = alone(DOWN, FIXED, n);
            for (int i = 0; i <= 2 * n; i++) {
                t.due("DOWN " + n + " at " + i, x.feed(0, 100 + i), i % n == 0 ? 1 : 0);
            }
            outputs(t, "DOWN " + n, x, 0, 100, 100 + n, 100 + 2 * n);
        }
    }

    private static void up(Check t) {
        int[] lengths = {2, 3, 7, 8};
        for (int n : lengths) {
            for (int sort = 0; sort < 3; sort++) {
                Bench x = alone(UP, sort, n);
                t.due("UP " + n, x.feed(0, sample(sort, 5)), n);
                t.due("UP " + n, x.feed(0, sample(sort, -6)), n);
                for (int i = 0; i <= 2 * n; i++) {
                    long due = i == 0 ? sample(sort, 5) : i == n ? sample(sort, -6) : 0;
                    t.due("UP " + n + " at " + i, x.output(0, i), due);
                }
            }
        }
    }

    private static void hold(Check t) {
        int[] lengths = {2, 3, 7, 8};
        for (int n : lengths) {
            for (int sort = 0; sort < 3; sort++) {
                Bench x = alone(HOLD, sort, n);
                t.due("HOLD " + n, x.feed(0, sample(sort, 5)), n);
                t.due("HOLD " + n, x.feed(0, sample(sort, -6)), n);
                for (int i = 0; i <= 2 * n; i++) {
                    long due = i < n ? sample(sort, 5) : i < 2 * n ? sample(sort, -6) : 0;
                    t.due("HOLD " + n + " at " + i, x.output(0, i), due);
                }
            }
        }
    }

    private static void mix(Check t) {
        Bench x = alone(DELAY, FIXED, 1);
        x.alone(MIX, FIXED, 0, WHOLE, -WHOLE);
        x.within(1, 0);
        x.feedAll(1, 5, 7, -32768, 0);
        outputs(t, "the x, less the x ahead", x, 1, 5, 2, -32768, 32767);
        outputs(t, "what is within", x, 0, 0, 5, 7, -32768);
        t.due("overs", x.about(1, 5), 2);
        Bench y = alone(GAIN, DOUBLE, 0, d(2));
        y.alone(GAIN, DOUBLE, 0, d(10));
        y.put(1, MIX, DOUBLE, 0, d(1), d(3));
        y.within(2, 0);
        y.feed(1, d(1));
        t.due("what comes to the MIX comes to its chain", y.last(0), d(20));
        t.due("both", y.last(1), d(70));
    }

    private static void mixAlone(Check t) {
        makes(t, "c1 is 0", alone(MIX, DOUBLE, 0, d(2)), raw(d(3), d(-0.0)), raw(d(6), 0));
        makes(t, "c1 is above 0", alone(MIX, DOUBLE, 0, d(2), d(5)), raw(d(3), d(-0.0)), raw(d(6), 0));
        makes(t, "c1 is below 0", alone(MIX, DOUBLE, 0, d(2), d(-5)), raw(d(3), d(-0.0)), raw(d(6), d(-0.0)));
        makes(t, "infinity by 0", alone(MIX, DOUBLE, 0, d(2), INFINITY), raw(d(3)), raw(NAN));
        makes(t, "of FLOAT", alone(MIX, FLOAT, 0, f(2), f(-5)), raw(f(3), f(-0.0)), raw(f(6), f(-0.0)));
        makes(t, "of FIXED", alone(MIX, FIXED, 0, -32768, 32767), raw(3, -3, 16384, 16385), raw(-6, 6, -32768, -32768));
    }

    private static void oneRest(Check t) {
        Bench x = fixed(SECOND, 2, 0, 8192, 0, 0, 8192, 0);
        makes(t, "SECOND: w, then y", x, raw(1, 1), raw(0, 0));
        states(t, "SECOND", x, 0, 1, 1);
        t.due("SECOND: the rest", x.state(0, 100), 8192);
        Bench y = fixed(TURNED, 2, 0, 8192, 8192, 8192, 0, 0);
        makes(t, "TURNED: y, then s0, then s1", y, raw(1), raw(0));
        states(t, "TURNED", y, 0, 1, 0);
        t.due("TURNED: the rest", y.state(0, 100), 8192);
        makes(t, "TURNED, once more", y, raw(1), raw(2));
        states(t, "TURNED, once more", y, 0, 0, 1);
        t.due("TURNED, once more: the rest", y.state(0, 100), 0);
        Bench z = fixed(PASS, 2, 0, 8192);
        makes(t, "PASS: w, then y", z, raw(1, 1), raw(0, 1));
        states(t, "PASS", z, 0, 1);
        t.due("PASS: the rest", z.state(0, 100), 8192);
        Bench w = fixed(MEAN, 2, 0, 8192);
        makes(t, "MEAN: t, then y", w, raw(1, 0), raw(0, 1));
        t.due("MEAN: the rest", w.state(0, 100), 0);
        Bench v = fixed(PEAK, 2, 0, 8192);
        makes(t, "PEAK: c0 * s alone", v, raw(3, 0, 9, 0), raw(3, 1, 9, 5));
        t.due("PEAK: the rest", v.state(0, 100), 0);
    }

    private static void ownRest(Check t) {
        Bench x = fixed(GAIN, 2, 0, 8192);
        x.put(0, GAIN, FIXED, 0, 8192);
        x.rule(1, 2, 0);
        makes(t, "two in a chain", x, raw(1, 1, 1, 1), raw(0, 0, 0, 1));
        t.due("the first", x.state(0, 100), 0);
        t.due("the second", x.state(1, 100), 0);
        x.feed(0, 3);
        t.due("the first", x.state(0, 100), 8192);
        t.due("the second", x.state(1, 100), 8192);
        Bench y = alone(GAIN, DOUBLE, 0, d(0.5));
        y.feed(0, d(1));
        t.due("of DOUBLE none", y.state(0, 100), 0);
    }
}
