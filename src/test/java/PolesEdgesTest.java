/** The boundary cases of "Terms" IV, and of promises 20 to 22. */
public final class PolesEdgesTest extends Edges {
    private static final double LESS = Math.nextDown(1.0);
    private static final double MORE = Math.nextUp(1.0);
    private static final double TINY = Double.MIN_VALUE;

    public static void main(String[] args) {
        test("20 poles: of POLE c1", PolesEdgesTest::ofPole);
        test("20 poles: of PASS -c0", PolesEdgesTest::ofPass);
        test("20 poles: of 2, 3, 4 both real, at 1 and -1", PolesEdgesTest::realPairs);
        test("20 poles: of 2, 3, 4 on the circle and off the axis", PolesEdgesTest::otherPairs);
        test("20 poles: exactly", PolesEdgesTest::exactly);
        test("20 poles: one on the circle, one outside", PolesEdgesTest::onAndOutside);
        test("20 poles: of FIXED, 16384ths", PolesEdgesTest::ofFixed);
        test("20 poles: of FLOAT", PolesEdgesTest::ofFloat);
        test("20 poles: no finite number", PolesEdgesTest::notFinite);
        test("20 poles: others are not looked at", PolesEdgesTest::othersNotLookedAt);
        test("20 poles: coefficients as they are", PolesEdgesTest::asTheyAre);
        test("20 poles: NONE for other kinds", PolesEdgesTest::otherKinds);
        test("20 poles: NONE without such a section", PolesEdgesTest::polesOfNone);
        test("21 cycles: of a POLE, no other kind", PolesEdgesTest::cyclesKinds);
        test("21 cycles: of FIXED, no other sort", PolesEdgesTest::cyclesSorts);
        test("21 cycles: rounding 0 or 1", PolesEdgesTest::cyclesRounding);
        test("21 cycles: NONE without such a section", PolesEdgesTest::cyclesOfNone);
        test("21 cycles: one at least, 65536 at most", PolesEdgesTest::cyclesCounts);
        test("21 cycles: halves upwards, or towards 0", PolesEdgesTest::cyclesHalves);
        test("21 cycles: by the limit, where the shorts end", PolesEdgesTest::cyclesLimit);
        test("21 cycles: around a c1 of 1 and -1", PolesEdgesTest::cyclesAround);
        test("21 cycles: c0, states and the rest are not looked at, and stay", PolesEdgesTest::cyclesStay);
        test("21 cycles: of the section as it is now", PolesEdgesTest::cyclesNow);
        test("22 cycle: its least short", PolesEdgesTest::cycleLeast);
        test("22 cycle: its length", PolesEdgesTest::cycleLength);
        test("22 cycle: how many shorts lead to it, itself too", PolesEdgesTest::cycleBasin);
        test("22 cycle: from the least on", PolesEdgesTest::cycleOrder);
        test("22 cycle: 0 for another k", PolesEdgesTest::cycleNumbers);
        test("22 cycle: 0 for another what", PolesEdgesTest::cycleWhats);
        test("22 cycle: 0 where there are none", PolesEdgesTest::cycleNone);
        Check.end();
    }

    private static int poles(int kind, int sort, long... factors) {
        return alone(kind, sort, 1, factors).poles(0);
    }

    // ---- promise 20 ----

    private static void ofPole(Check t) {
        double[] sizes = {0, TINY, 0.5, LESS, 1, MORE, 2, Double.MAX_VALUE};
        int[] due = {1, 1, 1, 1, 2, 0, 0, 0};
        for (int i = 0; i < sizes.length; i++) {
            t.due("c1 " + sizes[i], poles(POLE, DOUBLE, d(3), d(sizes[i])), due[i]);
            t.due("c1 -" + sizes[i], poles(POLE, DOUBLE, d(3), d(-sizes[i])), due[i]);
        }
        t.due("c0 is no pole", poles(POLE, DOUBLE, d(2), d(0.5)), 1);
        t.due("c0 is no pole", poles(POLE, DOUBLE, d(0.5), d(2)), 0);
    }

    private static void ofPass(Check t) {
        double[] sizes = {0, TINY, 0.5, LESS, 1, MORE, 2, Double.MAX_VALUE};
        int[] due = {1, 1, 1, 1, 2, 0, 0, 0};
        for (int i = 0; i < sizes.length; i++) {
            t.due("c0 " + sizes[i], poles(PASS, DOUBLE, d(sizes[i])), due[i]);
            t.due("c0 -" + sizes[i], poles(PASS, DOUBLE, d(-sizes[i])), due[i]);
        }
    }

    /** z * z + a * z + b and z * z - a * z + b, of the kinds 2, 3 and 4. */
    private static void pairs(Check t, double a, double b, int due) {
        for (int kind = DIRECT; kind <= TURNED; kind++) {
            String what = "kind " + kind + ", a " + a + ", b " + b;
            t.due(what, poles(kind, DOUBLE, d(9), d(9), d(9), d(a), d(b)), due);
            t.due(what + ", the other sign", poles(kind, DOUBLE, d(9), d(9), d(9), d(-a), d(b)), due);
        }
    }

    private static void realPairs(Check t) {
        pairs(t, 0, 0, 1);
        pairs(t, LESS, 0, 1);
        pairs(t, 1, 0, 2);
        pairs(t, MORE, 0, 0);
        pairs(t, 1.5, 0.5, 2);
        pairs(t, Math.nextDown(1.5), 0.5, 1);
        pairs(t, Math.nextUp(1.5), 0.5, 0);
        pairs(t, 0.5, -0.5, 2);
        pairs(t, Math.nextDown(0.5), -0.5, 1);
        pairs(t, Math.nextUp(0.5), -0.5, 0);
        pairs(t, 0, -LESS, 1);
        pairs(t, 0, -1, 2);
        pairs(t, 0, -MORE, 0);
    }

    private static void otherPairs(Check t) {
        pairs(t, 0, LESS, 1);
        pairs(t, 0, 1, 2);
        pairs(t, 0, MORE, 0);
        pairs(t, 1, LESS, 1);
        pairs(t, 1, 1, 2);
        pairs(t, 1, MORE, 0);
        pairs(t, Math.nextDown(2.0), 1, 2);
        pairs(t, 2, 1, 2);
        pairs(t, Math.nextUp(2.0), 1, 0);
        pairs(t, 2, LESS, 0);
        pairs(t, 2, MORE, 0);
        pairs(t, 0, Double.MAX_VALUE, 0);
        pairs(t, Double.MAX_VALUE, 0, 0);
    }

    private static void exactly(Check t) {
        pairs(t, 1, TINY, 1);
        pairs(t, 1, -TINY, 0);
        pairs(t, MORE, TINY, 0);
        pairs(t, MORE, MORE - 1, 2);
        pairs(t, MORE, Math.nextDown(MORE - 1), 0);
        pairs(t, MORE, Math.nextUp(MORE - 1), 1);
        pairs(t, LESS, LESS - 1, 2);
        pairs(t, LESS, Math.nextDown(LESS - 1), 0);
        pairs(t, LESS, Math.nextUp(LESS - 1), 1);
        pairs(t, TINY, -1, 0);
        pairs(t, TINY, -LESS, 1);
        pairs(t, 1 - LESS, -LESS, 2);
        pairs(t, Math.nextUp(1 - LESS), -LESS, 0);
        pairs(t, Math.nextDown(1 - LESS), -LESS, 1);
        pairs(t, 2, Math.nextDown(1.0), 0);
        pairs(t, Math.nextDown(2.0), LESS, 1);
        pairs(t, Math.nextDown(2.0), Math.nextDown(LESS), 2);
        pairs(t, Math.nextDown(2.0), Math.nextDown(Math.nextDown(LESS)), 0);
        pairs(t, 0.75, Math.nextUp(-0.25), 1);
        pairs(t, 0.75, -0.25, 2);
        pairs(t, 0.75, Math.nextDown(-0.25), 0);
    }

    private static void onAndOutside(Check t) {
        pairs(t, 3, 2, 0);
        pairs(t, 1, -2, 0);
        pairs(t, 2.5, 1, 0);
        pairs(t, 1.5, -1, 0);
        pairs(t, TINY, -1, 0);
        pairs(t, 2 * MORE, 1, 0);
    }

    private static void ofFixed(Check t) {
        for (int sign = -1; sign <= 1; sign += 2) {
            t.due("POLE 16383", poles(POLE, FIXED, 0, sign * 16383), 1);
            t.due("POLE 16384", poles(POLE, FIXED, 0, sign * 16384), 2);
            t.due("POLE 16385", poles(POLE, FIXED, 0, sign * 16385), 0);
            t.due("PASS 16383", poles(PASS, FIXED, sign * 16383), 1);
            t.due("PASS 16384", poles(PASS, FIXED, sign * 16384), 2);
            t.due("PASS 16385", poles(PASS, FIXED, sign * 16385), 0);
            for (int kind = DIRECT; kind <= TURNED; kind++) {
                t.due("32766, 16382", poles(kind, FIXED, 0, 0, 0, sign * 32766, 16382), 2);
                t.due("32765, 16382", poles(kind, FIXED, 0, 0, 0, sign * 32765, 16382), 1);
                t.due("32767, 16382", poles(kind, FIXED, 0, 0, 0, sign * 32767, 16382), 0);
                t.due("32767, 16383", poles(kind, FIXED, 0, 0, 0, sign * 32767, 16383), 2);
                t.due("32767, 16384", poles(kind, FIXED, 0, 0, 0, sign * 32767, 16384), 2);
                t.due("0, 16385", poles(kind, FIXED, 0, 0, 0, 0, 16385), 0);
                t.due("0, -16384", poles(kind, FIXED, 0, 0, 0, 0, -16384), 2);
                t.due("1, -16384", poles(kind, FIXED, 0, 0, 0, sign, -16384), 0);
                t.due("1, -16383", poles(kind, FIXED, 0, 0, 0, sign, -16383), 2);
                t.due("0, -16383", poles(kind, FIXED, 0, 0, 0, 0, -16383), 1);
            }
        }
        t.due("POLE -32768", poles(POLE, FIXED, 0, -32768), 0);
        t.due("DIRECT -32768, 16384", poles(DIRECT, FIXED, 0, 0, 0, -32768, 16384), 2);
        t.due("DIRECT -32768, 16383", poles(DIRECT, FIXED, 0, 0, 0, -32768, 16383), 0);
    }

    private static void ofFloat(Check t) {
        float less = Math.nextDown(1f);
        float more = Math.nextUp(1f);
        for (int sign = -1; sign <= 1; sign += 2) {
            t.due("POLE below 1", poles(POLE, FLOAT, 0, f(sign * less)), 1);
            t.due("POLE 1", poles(POLE, FLOAT, 0, f(sign)), 2);
            t.due("POLE above 1", poles(POLE, FLOAT, 0, f(sign * more)), 0);
            t.due("PASS below 1", poles(PASS, FLOAT, f(sign * less)), 1);
            t.due("PASS above 1", poles(PASS, FLOAT, f(sign * more)), 0);
            for (int kind = DIRECT; kind <= TURNED; kind++) {
                t.due("1, least", poles(kind, FLOAT, 0, 0, 0, f(sign), 1), 1);
                t.due("1, 0", poles(kind, FLOAT, 0, 0, 0, f(sign), 0), 2);
                t.due("1, least below 0", poles(kind, FLOAT, 0, 0, 0, f(sign), LEAST + 1), 0);
            }
        }
        t.due("not-a-number", poles(POLE, FLOAT, 0, FLOAT_NAN), 0);
        t.due("infinity", poles(POLE, FLOAT, 0, FLOAT_INFINITY), 0);
        t.due("the greatest", poles(POLE, FLOAT, 0, FLOAT_INFINITY - 1), 0);
    }

    private static void notFinite(Check t) {
        double[] none = {Double.NaN, Double.POSITIVE_INFINITY, Double.NEGATIVE_INFINITY};
        for (double v : none) {
            t.due("POLE " + v, poles(POLE, DOUBLE, 0, d(v)), 0);
            t.due("PASS " + v, poles(PASS, DOUBLE, d(v)), 0);
            for (int kind = DIRECT; kind <= TURNED; kind++) {
                t.due("c3 " + v, poles(kind, DOUBLE, 0, 0, 0, d(v), 0), 0);
                t.due("c4 " + v, poles(kind, DOUBLE, 0, 0, 0, 0, d(v)), 0);
                for (double w : none) {
                    t.due("both " + v + ", " + w, poles(kind, DOUBLE, 0, 0, 0, d(v), d(w)), 0);
                }
            }
        }
    }

    private static void othersNotLookedAt(Check t) {
        long[] others = {NAN, INFINITY, d(Double.NEGATIVE_INFINITY), d(2)};
        for (long o : others) {
            t.due("POLE, inside", poles(POLE, DOUBLE, o, d(0.5)), 1);
            t.due("POLE, on it", poles(POLE, DOUBLE, o, d(-1)), 2);
            for (int kind = DIRECT; kind <= TURNED; kind++) {
                t.due("inside", poles(kind, DOUBLE, o, o, o, d(0.5), d(0.25)), 1);
                t.due("on it", poles(kind, DOUBLE, o, o, o, d(0.5), d(1)), 2);
            }
        }
    }

    private static void asTheyAre(Check t) {
        Bench x = new Bench();
        x.section(POLE, DOUBLE, 0);
        t.due("0 at first, in no chain", x.poles(0), 1);
        x.coefficient(0, 1, d(1));
        t.due("1", x.poles(0), 2);
        x.ratio(0, 1, 3, 2);
        t.due("3/2", x.poles(0), 0);
        x.coefficient(0, 1, d(-0.5));
        t.due("-0.5", x.poles(0), 1);
        for (int kind = DIRECT; kind <= TURNED; kind++) {
            t.due("0s at first", poles(kind, FIXED), 1);
        }
        t.due("0 at first", poles(PASS, FLOAT), 1);
    }

    private static void otherKinds(Check t) {
        int[] kinds = {GAIN, DELAY, MEAN, COMB, CLIP, DEAD, PEAK, DOWN, UP, HOLD, MIX};
        for (int kind : kinds) {
            for (int sort = 0; sort < 3; sort++) {
                int as = sort;
                Twins.none(t, "kind " + kind + " of " + sort, x -> x.alone(kind, as, 2, one(as)), x -> x.poles(0));
            }
        }
    }

    private static void polesOfNone(Check t) {
        int[] none = {-1, 1, 59, 60, LEAST, GREATEST};
        for (int s : none) {
            Twins.none(t, "section " + s, x -> x.alone(POLE, DOUBLE, 0, d(1), d(1)), x -> x.poles(s));
        }
        Bench x = new Bench();
        x.sections(60, POLE, FIXED);
        t.due("the 60th", x.poles(59), 1);
        t.due("the 61st", x.poles(60), NONE);
    }

    // ---- promises 21 and 22 ----

    private static Bench dead(long factor, int rounding, int limit) {
        return fixed(POLE, rounding, limit, 12345, factor);
    }

    private static void cyclesKinds(Check t) {
        t.due("POLE", dead(8192, 1, 0).cycles(0), 1);
        for (int kind = 0; kind < 16; kind++) {
            if (kind != POLE) {
                int of = kind;
                Twins.none(t, "kind " + kind, x -> x.alone(of, FIXED, 2, WHOLE, 8192), x -> x.cycles(0));
            }
        }
    }

    private static void cyclesSorts(Check t) {
        for (int sort = DOUBLE; sort <= FLOAT; sort++) {
            int as = sort;
            Twins.none(t, "sort " + sort, x -> x.alone(POLE, as, 0, one(as), one(as)), x -> x.cycles(0));
        }
        Bench x = new Bench();
        x.section(POLE, FIXED, 0);
        t.due("of FIXED, in no chain", x.cycles(0), 1);
    }

    private static void cyclesRounding(Check t) {
        t.due("rounding 0", dead(8192, 0, 0).cycles(0), 2);
        t.due("rounding 1", dead(8192, 1, 0).cycles(0), 1);
        for (int l = 0; l < 2; l++) {
            int limit = l;
            Twins.none(t, "rounding 2", x -> {
                x.alone(POLE, FIXED, 0, WHOLE, 8192);
                x.rule(0, 2, limit);
                x.feed(0, 3);
            }, x -> x.cycles(0));
        }
    }

    private static void cyclesOfNone(Check t) {
        int[] none = {-1, 1, 59, 60, LEAST, GREATEST};
        for (int s : none) {
            Twins.none(t, "section " + s, x -> x.alone(POLE, FIXED, 0, WHOLE, 8192), x -> x.cycles(s));
        }
        Bench x = new Bench();
        x.sections(60, POLE, FIXED);
        t.due("the 60th", x.cycles(59), 1);
        t.due("the 61st", x.cycles(60), NONE);
    }

    private static void cyclesCounts(Check t) {
        for (int rounding = 0; rounding < 2; rounding++) {
            for (int limit = 0; limit < 2; limit++) {
                t.due("c1 is 0", dead(0, rounding, limit).cycles(0), 1);
                t.due("c1 is 1", dead(16384, rounding, limit).cycles(0), 65536);
            }
        }
        Bench x = dead(16384, 0, 0);
        t.due("the first of 65536", x.cycle(0, 0, 0), -32768);
        t.due("the last of 65536", x.cycle(0, 65535, 0), 32767);
        t.due("its length", x.cycle(0, 65535, 1), 1);
        t.due("what leads to it", x.cycle(0, 65535, 2), 1);
        t.due("behind it", x.cycle(0, 65536, 1), 0);
        Bench y = dead(0, 1, 1);
        t.due("the only one", y.cycle(0, 0, 0), 0);
        t.due("its length", y.cycle(0, 0, 1), 1);
        t.due("what leads to it", y.cycle(0, 0, 2), 65536);
        t.due("no second", y.cycle(0, 1, 1), 0);
    }

    private static void cyclesHalves(Check t) {
        t.due("a half of 1 is 1, halves upwards", dead(8192, 0, 0).cycle(0, 1, 0), 1);
        t.due("a half of -1 is 0, halves upwards", dead(8192, 0, 0).cycle(0, 0, 0), 0);
        t.due("a half less than that", dead(8191, 0, 0).cycles(0), 1);
        t.due("a half more than that: -1 too", dead(8193, 0, 0).cycles(0), 3);
        t.due("-1 of -1", dead(8193, 0, 0).cycle(0, 0, 0), -1);
        t.due("towards 0", dead(8193, 1, 0).cycles(0), 1);
        t.due("nearly 1, towards 0", dead(16383, 1, 0).cycles(0), 1);
        t.due("minus a half, halves upwards", dead(-8192, 0, 0).cycles(0), 1);
        t.due("more than minus a half: 1 and -1 by turns", dead(-8193, 0, 0).cycles(0), 2);
        t.due("1 and -1", dead(-8193, 0, 0).cycle(0, 0, 1), 2);
        t.due("towards 0", dead(-8193, 1, 0).cycles(0), 1);
    }

    private static void cyclesLimit(Check t) {
        t.due("-1, the nearest", dead(-16384, 0, 0).cycles(0), 32768);
        t.due("-1, the lowest bits", dead(-16384, 0, 1).cycles(0), 32769);
        t.due("the least of it alone", dead(-16384, 0, 1).cycle(0, 0, 1), 1);
        t.due("the least with the greatest", dead(-16384, 0, 0).cycle(0, 0, 0), -32767);
        t.due("-2, the nearest: both ends by turns, and 0", dead(-32768, 0, 0).cycles(0), 2);
        t.due("both ends", dead(-32768, 0, 0).cycle(0, 0, 1), 2);
        t.due("-2, the lowest bits: 0 alone", dead(-32768, 0, 1).cycles(0), 1);
        t.due("all lead to it", dead(-32768, 0, 1).cycle(0, 0, 2), 65536);
        Bench x = dead(32767, 1, 0);
        t.due("nearly 2, the nearest: the least", x.cycle(0, 0, 0), -32768);
        t.due("nearly 2, the nearest: the greatest", x.cycle(0, x.cycles(0) - 1, 0), 32767);
    }

    private static void cyclesAround(Check t) {
        Bench x = dead(16385, 1, 0);
        t.due("a bit more than 1, towards 0: up to 16383 either way, and the ends", x.cycles(0), 2 * 16383 + 1 + 2);
        t.due("the least", x.cycle(0, 0, 0), -32768);
        t.due("-16384 and all below lead to it", x.cycle(0, 0, 2), 32768 - 16384 + 1);
        t.due("the next", x.cycle(0, 1, 0), -16383);
        t.due("itself alone", x.cycle(0, 1, 2), 1);
        t.due("the greatest", x.cycle(0, 32768, 0), 32767);
        t.due("16384 and all above lead to it", x.cycle(0, 32768, 2), 32767 - 16384 + 1);
        t.due("a bit above -1, towards 0", dead(-16383, 1, 0).cycles(0), 1);
        t.due("a bit less than 1, to the nearest: down to -8191", dead(16383, 0, 0).cycle(0, 0, 0), -8191);
        t.due("up to 8192", dead(16383, 0, 0).cycles(0), 8191 + 8192 + 1);
        t.due("the greatest", dead(16383, 0, 0).cycle(0, 8191 + 8192, 0), 8192);
    }

    private static void cyclesStay(Check t) {
        Bench x = new Bench();
        x.alone(POLE, FIXED, 0, 32767, -16384);
        x.feedAll(0, 30000, 30000, -30000);
        long state = x.state(0, 0);
        int overs = x.about(0, 5);
        t.due("cycles", x.cycles(0), 32768);
        x.coefficient(0, 0, 1);
        t.due("another c0", x.cycles(0), 32768);
        t.due("state", x.state(0, 0), state);
        t.due("overs", x.about(0, 5), overs);
        t.due("c1", x.told(0, 1), -16384);
        x.rule(0, 2, 0);
        x.coefficient(0, 0, 8192);
        x.feed(0, 1);
        long rest = x.state(0, 100);
        x.rule(0, 0, 0);
        t.yes("a rest", rest != 0);
        t.due("a rest is not looked at", x.cycles(0), 32768);
        t.due("the rest stays", x.state(0, 100), rest);
    }

    private static void cyclesNow(Check t) {
        Bench x = dead(8192, 0, 0);
        t.due("as it is", x.cycles(0), 2);
        x.rule(0, 1, 0);
        t.due("by another rounding", x.cycles(0), 1);
        x.coefficient(0, 1, -16384);
        t.due("with another coefficient", x.cycles(0), 32768);
        x.rule(0, 1, 1);
        t.due("by another limit", x.cycles(0), 32769);
        x.rule(0, 2, 1);
        t.due("by rounding 2", x.cycles(0), NONE);
        t.due("none of it", x.cycle(0, 0, 1), 0);
        x.rule(0, 0, 0);
        x.ratio(0, 1, 1, 2);
        t.due("as it was", x.cycles(0), 2);
        x.coefficient(0, 0, 8192);
        x.coefficient(0, 1, 16384);
        t.due("a c0 that was c1", x.cycles(0), 65536);
        x.coefficient(0, 1, 0);
        t.due("a c1 of 0", x.cycles(0), 1);
        x.coefficient(0, 1, 8192);
        t.due("as it was", x.cycles(0), 2);
        int other = x.made(POLE, FIXED, 0, 0, 16384);
        t.due("of another section", x.cycle(other, 65535, 0), 32767);
        t.due("of the first again", x.cycle(0, 1, 0), 1);
        t.due("of the first again", x.cycle(0, 2, 1), 0);
        t.due("of the other again", x.cycles(other), 65536);
    }

    private static void cycleLeast(Check t) {
        Bench x = dead(-16384, 1, 0);
        t.due("the first", x.cycle(0, 0, 0), -32767);
        t.due("the second", x.cycle(0, 1, 0), -32766);
        t.due("the one ahead of the last", x.cycle(0, 32766, 0), -1);
        t.due("the last, 0 itself", x.cycle(0, 32767, 0), 0);
        t.due("behind it", x.cycle(0, 32768, 0), 0);
    }

    private static void cycleLength(Check t) {
        Bench x = dead(-16384, 1, 0);
        t.due("two", x.cycle(0, 0, 1), 2);
        t.due("one", x.cycle(0, 32767, 1), 1);
        t.due("none", x.cycle(0, 32768, 1), 0);
        Bench y = dead(-16384, 1, 1);
        t.due("the least alone", y.cycle(0, 0, 1), 1);
        t.due("the next ones", y.cycle(0, 1, 1), 2);
        Bench z = dead(32767, 0, 1);
        int longest = 0;
        int count = z.cycles(0);
        for (int k = 0; k < count && k < 200; k++) {
            longest = Math.max(longest, z.cycle(0, k, 1));
        }
        t.due("as walked", longest, longestWalked(32767, Math.min(count, 200)));
    }

    /** One step of a POLE of that c1, by rounding 0 and limit 1. */
    private static int stepped(int factor, int s) {
        return (short) Math.floorDiv(factor * s + 8192, 16384);
    }

    /** The longest of the first cycles, each walked from its least short on. */
    private static int longestWalked(int factor, int cycles) {
        int longest = 0;
        int found = 0;
        for (int s = -32768; s < 32768 && found < cycles; s++) {
            int length = 0;
            int at = s;
            do {
                at = stepped(factor, at);
                length++;
            } while (at > s && length < 65536);
            if (at == s) {
                found++;
                longest = Math.max(longest, length);
            }
        }
        return longest;
    }

    private static void cycleBasin(Check t) {
        Bench x = dead(8192, 0, 0);
        t.due("to 0: all below 0, and itself", x.cycle(0, 0, 2), 32769);
        t.due("to 1: all above it, and itself", x.cycle(0, 1, 2), 32767);
        Bench y = dead(-16384, 1, 0);
        t.due("the ends, and the least short", y.cycle(0, 0, 2), 3);
        t.due("themselves alone", y.cycle(0, 1, 2), 2);
        t.due("itself alone", y.cycle(0, 32767, 2), 1);
        Bench z = dead(-32768, 0, 0);
        t.due("all but 0", z.cycle(0, 0, 2), 65535);
        t.due("0 alone", z.cycle(0, 1, 2), 1);
        long[] factors = {-20000, 20000, 12345, -12345, 16385, -16385, 32767};
        for (long f : factors) {
            Bench w = dead(f, 0, 0);
            int all = 0;
            int count = w.cycles(0);
            for (int k = 0; k < count && k < 500; k++) {
                all += w.cycle(0, k, 2);
            }
            t.yes("each leads to one, " + f, count <= 500 ? all == 65536 : all < 65536);
        }
    }

    private static void cycleOrder(Check t) {
        long[] factors = {16383, -16383, -20000, 20000, 8193, -8193};
        for (long f : factors) {
            Bench x = dead(f, 0, 1);
            int before = LEAST;
            int count = x.cycles(0);
            for (int k = 0; k < count && k < 300; k++) {
                int least = x.cycle(0, k, 0);
                t.yes(f + ": cycle " + k + " is behind the one ahead", least > before);
                before = least;
            }
        }
    }

    private static void cycleNumbers(Check t) {
        int[] none = {-1, 2, 3, 65535, 65536, LEAST, GREATEST};
        for (int k : none) {
            for (int what = 0; what < 3; what++) {
                int which = what;
                Twins.zero(t, "k " + k + ", what " + what, x -> x.alone(POLE, FIXED, 0, WHOLE, 8192),
                        x -> x.cycle(0, k, which));
            }
        }
        t.due("the last", dead(8192, 0, 0).cycle(0, 1, 0), 1);
    }

    private static void cycleWhats(Check t) {
        int[] none = {-1, 3, 4, LEAST, GREATEST};
        for (int what : none) {
            Twins.zero(t, "what " + what, x -> x.alone(POLE, FIXED, 0, WHOLE, 8192), x -> x.cycle(0, 1, what));
        }
    }

    private static void cycleNone(Check t) {
        int[] none = {-1, 1, 59, 60, LEAST, GREATEST};
        for (int s : none) {
            Twins.zero(t, "section " + s, x -> x.alone(POLE, FIXED, 0, WHOLE, 8192), x -> x.cycle(s, 0, 1));
        }
        Twins.zero(t, "of DOUBLE", x -> x.alone(POLE, DOUBLE, 0, d(1), d(1)), x -> x.cycle(0, 0, 1));
        Twins.zero(t, "of FLOAT", x -> x.alone(POLE, FLOAT, 0, f(1), f(1)), x -> x.cycle(0, 0, 1));
        Twins.zero(t, "of PASS", x -> x.alone(PASS, FIXED, 0, 8192), x -> x.cycle(0, 0, 1));
        Twins.zero(t, "of rounding 2", x -> {
            x.alone(POLE, FIXED, 0, WHOLE, 8192);
            x.rule(0, 2, 0);
        }, x -> x.cycle(0, 0, 1));
    }
}
