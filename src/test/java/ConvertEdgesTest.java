/** The boundary cases of promise 23. */
public final class ConvertEdgesTest extends Edges {

    public static void main(String[] args) {
        test("23 convert: no such chain", ConvertEdgesTest::noneChain);
        test("23 convert: no such sort", ConvertEdgesTest::noneSort);
        test("23 convert: no section in it", ConvertEdgesTest::empty);
        test("23 convert: it is within a MIX", ConvertEdgesTest::within);
        test("23 convert: too many sections would be there", ConvertEdgesTest::sections);
        test("23 convert: too many sections, those within it too", ConvertEdgesTest::sectionsWithin);
        test("23 convert: too many chains would be there", ConvertEdgesTest::chains);
        test("23 convert: too many chains, those within it too", ConvertEdgesTest::chainsWithin);
        test("23 convert: a coefficient of FIXED would be no short", ConvertEdgesTest::noShort);
        test("23 convert: a c0 of CLIP, DEAD would be no short", ConvertEdgesTest::noShortItself);
        test("23 convert: a g would be no short", ConvertEdgesTest::noShortLoop);
        test("23 convert: a coefficient within it would be no short", ConvertEdgesTest::noShortWithin);
        test("23 convert: what is no finite number", ConvertEdgesTest::notFinite);
        test("23 convert: to FIXED the nearest, of equally near ones the even one", ConvertEdgesTest::nearestFixed);
        test("23 convert: CLIP, DEAD to FIXED, the nearest short itself", ConvertEdgesTest::nearestItself);
        test("23 convert: to FLOAT the nearest, of equally near ones the even one", ConvertEdgesTest::nearestFloat);
        test("23 convert: to FLOAT, the greatest and the least", ConvertEdgesTest::nearestFloatEnds);
        test("23 convert: from FIXED and FLOAT exactly what it means", ConvertEdgesTest::exactly);
        test("23 convert: from FIXED the c0 of CLIP, DEAD means the short itself", ConvertEdgesTest::itself);
        test("23 convert: to its own sort, each coefficient as it is", ConvertEdgesTest::ownSort);
        test("23 convert: g's too, loops with their places and n", ConvertEdgesTest::loops);
        test("23 convert: states 0, no output", ConvertEdgesTest::states);
        test("23 convert: rounding and limit from FIXED to FIXED, else 0", ConvertEdgesTest::rules);
        test("23 convert: kinds, lengths and places as they are", ConvertEdgesTest::kinds);
        test("23 convert: section by section, ahead of a MIX the chain within it", ConvertEdgesTest::order);
        test("23 convert: twenty chains, one in the other, do not fit; ten do", ConvertEdgesTest::deep);
        test("23 convert: the old chain stays as it is", ConvertEdgesTest::old);
        Check.end();
    }

    private static void one(Bench x) {
        x.alone(POLE, FIXED, 0, WHOLE, 8192);
        x.chain();
        x.feed(0, 100);
    }

    private static void gainInMix(Bench x) {
        x.alone(GAIN, DOUBLE, 0, d(0.5));
        x.alone(MIX, DOUBLE, 0, d(1), d(1));
        x.within(1, 0);
        x.feed(1, d(3));
    }

    /** A chain with so many GAINs, and so many sections in all. */
    private static void gains(Bench x, int members, int sections) {
        x.chain();
        for (int i = 0; i < members; i++) {
            x.put(0, GAIN, FIXED, 0, i + 1);
        }
        x.sections(sections - members, GAIN, FIXED);
    }

    // ---- what is refused ----

    private static void noneChain(Check t) {
        int[] none = {-1, 2, 19, 20, LEAST, GREATEST};
        for (int c : none) {
            Twins.none(t, "chain " + c, ConvertEdgesTest::one, x -> x.convert(c, DOUBLE));
        }
        Bench x = new Bench();
        one(x);
        t.due("the one that there is", x.convert(0, DOUBLE), 2);
        t.due("that one", x.convert(2, FLOAT), 3);
    }

    private static void noneSort(Check t) {
        int[] none = {-1, 3, 4, LEAST, GREATEST};
        for (int sort : none) {
            Twins.none(t, "sort " + sort, ConvertEdgesTest::one, x -> x.convert(0, sort));
        }
        for (int sort = 0; sort < 3; sort++) {
            Bench x = new Bench();
            one(x);
            t.due("sort " + sort, x.convert(0, sort), 2);
            t.due("its sort", x.chain(2, 4), sort);
            t.due("its section's sort", x.about(1, 1), sort);
        }
    }

    private static void empty(Check t) {
        for (int sort = 0; sort < 3; sort++) {
            int as = sort;
            Twins.none(t, "to " + sort, ConvertEdgesTest::one, x -> x.convert(1, as));
        }
        Bench x = new Bench();
        one(x);
        x.put(1, DELAY, FIXED, 1);
        t.due("one section", x.convert(1, DOUBLE), 2);
    }

    private static void within(Check t) {
        for (int sort = 0; sort < 3; sort++) {
            int as = sort;
            Twins.none(t, "to " + sort, ConvertEdgesTest::gainInMix, x -> x.convert(0, as));
        }
        Bench x = new Bench();
        gainInMix(x);
        t.due("the chain of the MIX", x.convert(1, FIXED), 3);
        t.due("the one within the new one is so too", x.convert(2, FIXED), NONE);
    }

    private static void sections(Check t) {
        int[] members = {1, 2, 9, 10};
        for (int n : members) {
            for (int s = 0; s < 3; s++) {
                int sort = s;
                Bench x = new Bench();
                gains(x, n, 60 - n);
                t.due(n + " sections, 60 then", x.convert(0, sort), 1);
                t.due("sections", x.count(0), 60);
                t.due("the last one's chain", x.about(59, 3), 1);
                t.due("once more", x.convert(0, sort), NONE);
                Twins.none(t, n + " sections, 61 then", y -> gains(y, n, 61 - n), y -> y.convert(0, sort));
            }
        }
        Twins.none(t, "60 are there", y -> gains(y, 1, 60), y -> y.convert(0, DOUBLE));
    }

    /** Chain 1 with a MIX, chain 0 of three sections within it; so many sections in all. */
    private static void mixed(Bench x, int sections) {
        gains(x, 3, 3);
        x.alone(MIX, FIXED, 0, WHOLE, WHOLE);
        x.within(3, 0);
        x.sections(sections - 4, GAIN, FIXED);
    }

    private static void sectionsWithin(Check t) {
        Bench x = new Bench();
        mixed(x, 56);
        t.due("60 then", x.convert(1, DOUBLE), 3);
        t.due("sections", x.count(0), 60);
        for (int sections = 57; sections <= 60; sections++) {
            int all = sections;
            Twins.none(t, (all + 4) + " then", y -> mixed(y, all), y -> y.convert(1, DOUBLE));
        }
    }

    private static void chains(Check t) {
        Bench x = new Bench();
        one(x);
        x.chains(17);
        t.due("a 20th", x.convert(0, DOUBLE), 19);
        t.due("a 21st", x.convert(0, DOUBLE), NONE);
        Twins.none(t, "a 21st", y -> {
            one(y);
            y.chains(18);
        }, y -> y.convert(0, DOUBLE));
    }

    private static void chainsWithin(Check t) {
        Bench x = new Bench();
        mixed(x, 4);
        x.chains(16);
        t.due("20 then", x.convert(1, DOUBLE), 19);
        t.due("the one within", x.chain(18, 0), 3);
        for (int more = 17; more <= 18; more++) {
            int many = more;
            Twins.none(t, (many + 4) + " then", y -> {
                mixed(y, 4);
                y.chains(many);
            }, y -> y.convert(1, DOUBLE));
        }
    }

    /** A coefficient of DOUBLE goes to FIXED as the one that is due. */
    private static void becomes(Check t, int kind, double c, long due) {
        Bench x = alone(kind, DOUBLE, 1, d(c));
        t.due(c + " goes", x.convert(0, FIXED), 1);
        t.due(c + " becomes", x.told(1, 0), due);
    }

    private static void isRefused(Check t, int kind, double c) {
        Twins.none(t, c + " does not go", x -> x.alone(kind, DOUBLE, 1, d(c)), x -> x.convert(0, FIXED));
    }

    private static void noShort(Check t) {
        becomes(t, GAIN, 32767 / 16384.0, 32767);
        becomes(t, GAIN, Math.nextDown(32767.5 / 16384), 32767);
        isRefused(t, GAIN, 32767.5 / 16384);
        isRefused(t, GAIN, 2);
        becomes(t, GAIN, -2, -32768);
        becomes(t, GAIN, -32768.5 / 16384, -32768);
        isRefused(t, GAIN, Math.nextDown(-32768.5 / 16384));
        isRefused(t, GAIN, -32769 / 16384.0);
        double[] far = {4, -4, 65536 / 16384.0 + 0.5, 1e9, -1e9, 1e300, -1e300, Double.MAX_VALUE, 0x1p52, 0x1p53, 0x1p62,
            0x1p63, 0x1p64, -0x1p63};
        for (double c : far) {
            isRefused(t, GAIN, c);
        }
        for (int k = 0; k < 5; k++) {
            int which = k;
            Twins.none(t, "c" + k + " of DIRECT", x -> {
                x.alone(DIRECT, FLOAT, 0, f(1), f(1), f(1), f(1), f(1));
                x.coefficient(0, which, f(2));
            }, x -> x.convert(0, FIXED));
        }
        Twins.none(t, "of the last section", x -> {
            x.alone(GAIN, FLOAT, 0, f(1));
            x.put(0, DELAY, FLOAT, 3);
            x.put(0, MIX, FLOAT, 0, f(1), f(-3));
        }, x -> x.convert(0, FIXED));
        Bench y = alone(GAIN, DOUBLE, 0, d(2));
        t.due("2 goes to FLOAT", y.convert(0, FLOAT), 1);
        t.due("2 goes to DOUBLE", y.convert(0, DOUBLE), 2);
    }

    private static void noShortItself(Check t) {
        for (int kind = CLIP; kind <= DEAD; kind++) {
            becomes(t, kind, 32767, 32767);
            becomes(t, kind, Math.nextDown(32767.5), 32767);
            isRefused(t, kind, 32767.5);
            isRefused(t, kind, 32768);
            becomes(t, kind, -32768, -32768);
            becomes(t, kind, -32768.5, -32768);
            isRefused(t, kind, Math.nextDown(-32768.5));
            isRefused(t, kind, -32769);
            isRefused(t, kind, 65536);
            isRefused(t, kind, 1e300);
        }
    }

    private static void loop(Bench x, double g) {
        x.alone(GAIN, DOUBLE, 0, d(1));
        x.loop(0, 0, 0, 1, d(0.5));
        x.loop(0, 0, 0, 1, d(g));
    }

    private static void noShortLoop(Check t) {
        double[] fit = {Math.nextDown(32767.5 / 16384), -2, -32768.5 / 16384, 0};
        long[] due = {32767, -32768, -32768, 0};
        for (int i = 0; i < fit.length; i++) {
            Bench x = new Bench();
            loop(x, fit[i]);
            t.due("g " + fit[i], x.convert(0, FIXED), 1);
            t.due("loops", x.chain(1, 1), 2);
            x.feed(1, 8);
            t.due("what it makes", x.of(1, 0), Math.round((4 * 16384 + 8 * due[i]) / 16384.0));
        }
        double[] none = {32767.5 / 16384, 2, Math.nextDown(-32768.5 / 16384), -3, 1e300, Double.NaN,
            Double.POSITIVE_INFINITY};
        for (double g : none) {
            Twins.none(t, "g " + g, x -> loop(x, g), x -> x.convert(0, FIXED));
        }
    }

    private static void noShortWithin(Check t) {
        Twins.Maker maker = x -> {
            x.alone(GAIN, DOUBLE, 0, d(2));
            x.alone(MIX, DOUBLE, 0, d(1), d(1));
            x.alone(MIX, DOUBLE, 0, d(1), d(1));
            x.within(1, 0);
            x.within(2, 1);
        };
        Twins.none(t, "the deepest", maker, x -> x.convert(2, FIXED));
        Bench x = new Bench();
        maker.make(x);
        x.coefficient(0, 0, d(-2));
        t.due("one that is one", x.convert(2, FIXED), 5);
        Twins.none(t, "a g deeper", y -> {
            y.alone(GAIN, DOUBLE, 0, d(1));
            y.loop(0, 0, 0, 1, d(2));
            y.alone(MIX, DOUBLE, 0, d(1), d(1));
            y.within(1, 0);
        }, y -> y.convert(1, FIXED));
    }

    private static void notFinite(Check t) {
        double[] none = {Double.NaN, Double.POSITIVE_INFINITY, Double.NEGATIVE_INFINITY};
        for (double c : none) {
            isRefused(t, GAIN, c);
            isRefused(t, CLIP, c);
            Bench x = alone(GAIN, DOUBLE, 0, d(c));
            t.due(c + " to FLOAT", x.convert(0, FLOAT), 1);
            t.due(c + " to FLOAT", x.told(1, 0), f(c));
            t.due(c + " to DOUBLE", x.convert(1, DOUBLE), 2);
            t.due(c + " to DOUBLE", x.told(2, 0), d(c));
            t.due(c + " of FLOAT to FIXED", x.convert(1, FIXED), NONE);
        }
    }

    // ---- what becomes of coefficients ----

    private static void nearestFixed(Check t) {
        double[] halves = {0.5, 1.5, 2.5, 3.5, 32766.5, -0.5, -1.5, -2.5, -32767.5, 16383.5, 16384.5};
        long[] even = {0, 2, 2, 4, 32766, 0, -2, -2, -32768, 16384, 16384};
        for (int i = 0; i < halves.length; i++) {
            double c = halves[i] / 16384;
            becomes(t, GAIN, c, even[i]);
            becomes(t, GAIN, Math.nextUp(c), (long) Math.floor(halves[i]) + 1);
            becomes(t, GAIN, Math.nextDown(c), (long) Math.floor(halves[i]));
        }
        becomes(t, GAIN, 1, 16384);
        becomes(t, GAIN, 1 / 3.0, 5461);
        becomes(t, GAIN, -1 / 3.0, -5461);
        becomes(t, GAIN, 0, 0);
        becomes(t, GAIN, -0.0, 0);
        becomes(t, GAIN, Double.MIN_VALUE, 0);
        becomes(t, GAIN, -Double.MIN_VALUE, 0);
        Bench x = alone(GAIN, FLOAT, 0, f(2.5 / 16384));
        x.convert(0, FIXED);
        t.due("of FLOAT, half way", x.told(1, 0), 2);
        x.coefficient(0, 0, f(Math.nextUp((float) (2.5 / 16384))));
        x.convert(0, FIXED);
        t.due("of FLOAT, above half way", x.told(2, 0), 3);
    }

    private static void nearestItself(Check t) {
        double[] halves = {0.5, 1.5, 2.5, 3.5, 32766.5, -0.5, -1.5, -2.5, -32767.5};
        long[] even = {0, 2, 2, 4, 32766, 0, -2, -2, -32768};
        for (int kind = CLIP; kind <= DEAD; kind++) {
            for (int i = 0; i < halves.length; i++) {
                becomes(t, kind, halves[i], even[i]);
                becomes(t, kind, Math.nextUp(halves[i]), (long) Math.floor(halves[i]) + 1);
                becomes(t, kind, Math.nextDown(halves[i]), (long) Math.floor(halves[i]));
            }
            becomes(t, kind, 1, 1);
            becomes(t, kind, 16384, 16384);
            becomes(t, kind, 1 / 16384.0, 0);
        }
        becomes(t, PEAK, 0.5, 8192);
    }

    private static void toFloat(Check t, double c, float due) {
        Bench x = alone(GAIN, DOUBLE, 0, d(c));
        t.due(c + " goes", x.convert(0, FLOAT), 1);
        t.due(c + " becomes", x.told(1, 0), f(due));
    }

    private static void nearestFloat(Check t) {
        double even = 1 + 0x1p-24;
        toFloat(t, even, 1);
        toFloat(t, Math.nextUp(even), 1 + 0x1p-23f);
        toFloat(t, Math.nextDown(even), 1);
        double odd = 1 + 0x1p-23 + 0x1p-24;
        toFloat(t, odd, 1 + 0x1p-22f);
        toFloat(t, Math.nextDown(odd), 1 + 0x1p-23f);
        toFloat(t, Math.nextUp(odd), 1 + 0x1p-22f);
        toFloat(t, -even, -1);
        toFloat(t, Math.nextDown(-even), -1 - 0x1p-23f);
        toFloat(t, -odd, -1 - 0x1p-22f);
        toFloat(t, 0.1, 0.1f);
        toFloat(t, 2 - 0x1p-25, 2);
    }

    private static void nearestFloatEnds(Check t) {
        double half = Float.MAX_VALUE + 0x1p103;
        toFloat(t, Float.MAX_VALUE, Float.MAX_VALUE);
        toFloat(t, Math.nextDown(half), Float.MAX_VALUE);
        toFloat(t, half, Float.POSITIVE_INFINITY);
        toFloat(t, -half, Float.NEGATIVE_INFINITY);
        toFloat(t, Double.MAX_VALUE, Float.POSITIVE_INFINITY);
        toFloat(t, 0x1p-149, Float.MIN_VALUE);
        toFloat(t, 0x1p-150, 0);
        toFloat(t, -0x1p-150, -0.0f);
        toFloat(t, Math.nextUp(0x1p-150), Float.MIN_VALUE);
        toFloat(t, 3 * 0x1p-150, 2 * Float.MIN_VALUE);
        toFloat(t, Math.nextDown(3 * 0x1p-150), Float.MIN_VALUE);
        toFloat(t, Double.MIN_VALUE, 0);
        toFloat(t, -Double.MIN_VALUE, -0.0f);
        toFloat(t, -0.0, -0.0f);
        toFloat(t, 0x1p-126 - 0x1p-150, 0x1p-126f);
    }

    private static void exactly(Check t) {
        int[] shorts = {-32768, -32767, -1, 0, 1, 16383, 16384, 32767};
        for (int c : shorts) {
            Bench x = alone(GAIN, FIXED, 0, c);
            x.convert(0, DOUBLE);
            t.due(c + " to DOUBLE", x.told(1, 0), d(c / 16384.0));
            x.convert(0, FLOAT);
            t.due(c + " to FLOAT", x.told(2, 0), f(c / 16384.0));
            x.convert(1, FIXED);
            t.due(c + " from DOUBLE", x.told(3, 0), c);
            x.convert(2, FIXED);
            t.due(c + " from FLOAT", x.told(4, 0), c);
        }
        float[] floats = {0.1f, -0.0f, Float.MIN_VALUE, Float.MAX_VALUE, 0x1p-126f, 1 + 0x1p-23f};
        for (float c : floats) {
            Bench x = alone(GAIN, FLOAT, 0, f(c));
            x.convert(0, DOUBLE);
            t.due(c + " to DOUBLE", x.told(1, 0), d(c));
            x.convert(1, FLOAT);
            t.due(c + " back again", x.told(2, 0), f(c));
        }
    }

    private static void itself(Check t) {
        int[] shorts = {-32768, -1, 0, 1, 300, 32767};
        for (int kind = CLIP; kind <= DEAD; kind++) {
            for (int c : shorts) {
                Bench x = alone(kind, FIXED, 0, c);
                x.convert(0, DOUBLE);
                t.due(c + " to DOUBLE", x.told(1, 0), d(c));
                x.convert(0, FLOAT);
                t.due(c + " to FLOAT", x.told(2, 0), f(c));
                x.convert(0, FIXED);
                t.due(c + " to FIXED", x.told(3, 0), c);
                x.convert(1, FIXED);
                t.due(c + " from DOUBLE", x.told(4, 0), c);
            }
        }
    }

    private static void ownSort(Check t) {
        long[][] bits = {{0, Long.MIN_VALUE, 1, NAN, INFINITY, d(0.1)}, {0, LEAST, 1, FLOAT_NAN, FLOAT_INFINITY, f(0.1)},
            {0, -32768, 1, 32767, -1, 5461}};
        for (int sort = 0; sort < 3; sort++) {
            for (long b : bits[sort]) {
                Bench x = alone(GAIN, sort, 0, b);
                t.due("sort " + sort + ", " + b + " goes", x.convert(0, sort), 1);
                t.due("sort " + sort + ", " + b, x.told(1, 0), b);
            }
        }
    }

    // ---- what the new chain is ----

    private static void loops(Check t) {
        Bench x = alone(GAIN, FIXED, 0, WHOLE);
        x.put(0, GAIN, FIXED, 0, WHOLE);
        x.put(0, DOWN, FIXED, 2);
        x.put(0, GAIN, FIXED, 0, WHOLE);
        x.loop(0, 0, 1, 64, 8192);
        x.loop(0, 1, 1, 1, -8192);
        x.loop(0, 3, 3, 3, 4096);
        x.feedAll(0, 1000, 2000);
        t.due("to DOUBLE", x.convert(0, DOUBLE), 1);
        t.due("loops", x.chain(1, 1), 3);
        t.due("the old one's", x.chain(0, 1), 3);
        Bench y = alone(GAIN, DOUBLE, 0, d(1));
        y.put(0, GAIN, DOUBLE, 0, d(1));
        y.put(0, DOWN, DOUBLE, 2);
        y.put(0, GAIN, DOUBLE, 0, d(1));
        y.loop(0, 0, 1, 64, d(0.5));
        y.loop(0, 1, 1, 1, d(-0.5));
        y.loop(0, 3, 3, 3, d(0.25));
        t.due("goes on alike", x.run(1, 100, 9), y.run(0, 100, 9));
        for (int i = 0; i < 50; i++) {
            t.due("output " + i, x.output(1, i), y.output(0, i));
        }
        t.due("no fourth", x.loop(1, 0, 0, 1, 0), NONE);
    }

    private static void states(Check t) {
        for (int kind = POLE; kind <= DOWN; kind++) {
            Bench x = alone(kind, FIXED, 2, 5, 4, 3, 2, 1);
            x.rule(0, 2, 0);
            x.feedAll(0, 11, 12, 13);
            t.due("kind " + kind, x.convert(0, FIXED), 1);
            Edges.states(t, "kind " + kind, x, 1, 0, 0, 0, 0, 0);
            t.due("rest of " + kind, x.state(1, 100), 0);
            t.due("output of " + kind, x.chain(1, 2), 0);
        }
        Bench y = alone(CLIP, FIXED, 0, 5);
        y.feed(0, 30000);
        t.due("touches", y.about(0, 6), 1);
        y.convert(0, FIXED);
        t.due("no touches", y.about(1, 6), 0);
        Bench z = alone(GAIN, FIXED, 0, -32768);
        z.feed(0, -32768);
        t.due("overs", z.about(0, 5), 1);
        z.convert(0, FIXED);
        t.due("no overs", z.about(1, 5), 0);
    }

    private static void rules(Check t) {
        for (int rounding = 0; rounding < 3; rounding++) {
            for (int limit = 0; limit < 2; limit++) {
                Bench x = fixed(GAIN, rounding, limit, WHOLE);
                x.convert(0, FIXED);
                t.due("FIXED to FIXED, rounding", x.about(1, 8), rounding);
                t.due("FIXED to FIXED, limit", x.about(1, 9), limit);
                x.convert(0, DOUBLE);
                t.due("FIXED to DOUBLE, rounding", x.about(2, 8), 0);
                t.due("FIXED to DOUBLE, limit", x.about(2, 9), 0);
                x.convert(2, FIXED);
                t.due("DOUBLE to FIXED, rounding", x.about(3, 8), 0);
                t.due("DOUBLE to FIXED, limit", x.about(3, 9), 0);
                x.convert(0, FLOAT);
                x.convert(4, FIXED);
                t.due("FLOAT to FIXED, rounding", x.about(5, 8), 0);
                t.due("FLOAT to FIXED, limit", x.about(5, 9), 0);
                t.due("the old one's rounding", x.about(0, 8), rounding);
                t.due("the old one's limit", x.about(0, 9), limit);
            }
        }
    }

    private static void kinds(Check t) {
        int[] lengths = {GREATEST, LEAST, 0, -1, 1, 7, 64, 32, 1, 9, 10, 11, 8, 2, 8, 15};
        for (int from = 0; from < 3; from++) {
            for (int to = 0; to < 3; to++) {
                for (int half = 0; half < 2; half++) {
                    Bench x = new Bench();
                    x.chain();
                    for (int i = 0; i < 8; i++) {
                        x.put(0, 8 * half + i, from, lengths[8 * half + i]);
                    }
                    t.due("from " + from + " to " + to, x.convert(0, to), 1);
                    t.due("sections", x.chain(1, 0), 8);
                    for (int i = 0; i < 8; i++) {
                        t.due("kind", x.about(8 + i, 0), 8 * half + i);
                        t.due("sort", x.about(8 + i, 1), to);
                        t.due("length", x.about(8 + i, 2), lengths[8 * half + i]);
                        t.due("chain", x.about(8 + i, 3), 1);
                        t.due("place", x.about(8 + i, 4), i);
                    }
                }
            }
        }
    }

    private static void order(Check t) {
        Bench x = alone(PASS, DOUBLE, 0, d(0.5));
        x.alone(POLE, DOUBLE, 0, d(0.5));
        x.put(1, MIX, DOUBLE, 0, d(0.5));
        x.alone(PEAK, DOUBLE, 0, d(0.5));
        x.alone(GAIN, DOUBLE, 0, d(0.5));
        x.put(3, MIX, DOUBLE, 0, d(0.25));
        x.put(3, DELAY, DOUBLE, 3);
        x.put(3, MIX, DOUBLE, 0, d(0.75));
        x.put(3, MIX, DOUBLE, 0, d(0.125));
        t.yes("chain 0 in chain 1", x.within(2, 0));
        t.yes("chain 1 in chain 3", x.within(7, 1));
        t.yes("chain 2 in chain 3", x.within(5, 2));
        t.due("its number", x.convert(3, FIXED), 7);
        int[] kinds = {GAIN, PEAK, MIX, DELAY, POLE, PASS, MIX, MIX, MIX};
        int[] chains = {7, 4, 7, 7, 6, 5, 6, 7, 7};
        int[] inner = {NONE, NONE, 4, NONE, NONE, NONE, 5, 6, NONE};
        int[] places = {0, 0, 1, 2, 0, 0, 1, 3, 4};
        for (int i = 0; i < kinds.length; i++) {
            t.due("kind " + i, x.about(9 + i, 0), kinds[i]);
            t.due("chain " + i, x.about(9 + i, 3), chains[i]);
            t.due("place " + i, x.about(9 + i, 4), places[i]);
            t.due("within " + i, x.about(9 + i, 7), inner[i]);
        }
        int[] mixes = {11, 15, 16, NONE};
        for (int i = 0; i < mixes.length; i++) {
            t.due("the MIX of chain " + (4 + i), x.chain(4 + i, 3), mixes[i]);
        }
        t.due("no section more", x.count(0), 18);
        t.due("no chain more", x.count(1), 8);
        t.due("a chain behind it", x.chain(), 8);
    }

    private static void nested(Bench x, int chains) {
        x.alone(GAIN, FIXED, 0, WHOLE);
        for (int i = 1; i < chains; i++) {
            x.alone(MIX, FIXED, 0, WHOLE, WHOLE);
            x.within(i, i - 1);
        }
    }

    private static void deep(Check t) {
        Bench x = new Bench();
        nested(x, 10);
        t.due("ten", x.convert(9, DOUBLE), 19);
        t.due("what they make", x.of(19, d(3)), d(30));
        t.due("the deepest", x.last(10), d(3));
        t.due("no more", x.convert(9, DOUBLE), NONE);
        Twins.none(t, "eleven", y -> nested(y, 11), y -> y.convert(10, DOUBLE));
        Twins.none(t, "twenty", y -> nested(y, 20), y -> y.convert(19, FIXED));
    }

    private static void old(Check t) {
        Bench x = new Bench();
        gainInMix(x);
        x.keep(1);
        t.due("convert", x.convert(1, FIXED), 3);
        t.yes("states", x.same(0));
        t.due("output", x.chain(1, 2), 1);
        t.due("sort", x.chain(1, 4), DOUBLE);
        t.due("coefficient", x.told(0, 0), d(0.5));
        t.due("within", x.about(1, 7), 0);
        t.due("kept", x.count(2), 1);
        x.coefficient(0, 0, d(9));
        t.due("the new one's coefficient", x.told(2, 0), 8192);
        x.feed(3, 8);
        t.due("the old one's output", x.chain(1, 2), 1);
        t.due("the new one's output", x.last(3), 12);
    }
}
