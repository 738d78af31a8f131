/** The boundary cases of promises 1 to 5, 13 to 15 and 25, and of the "Terms" that they use. */
public final class SectionEdgesTest extends Edges {
    private static final int[] BESIDE_NUMBERS = {-1, LEAST, GREATEST};

    public static void main(String[] args) {
        test("1 a new object: no sections, no chains", SectionEdgesTest::newObject);
        test("1 a new object: nothing to do in it", SectionEdgesTest::newObjectRefuses);
        test("2 section: its number, from 0 on", SectionEdgesTest::numbers);
        test("2 section: 60 at most", SectionEdgesTest::sixty);
        test("2 section: it is no such kind", SectionEdgesTest::kinds);
        test("2 section: it is no such sort", SectionEdgesTest::sorts);
        test("2 section: lengths of 6 and 8, 1 .. 64", SectionEdgesTest::lengthsOfDelays);
        test("2 section: lengths of 7, 1 .. 32", SectionEdgesTest::lengthsOfMean);
        test("2 section: lengths of 12 to 14, 2 .. 8", SectionEdgesTest::lengthsOfRates);
        test("2 section: lengths of others, any", SectionEdgesTest::lengthsOfOthers);
        test("2 section: rounding 0, limit 0", SectionEdgesTest::rulesAtFirst);
        test("3 coefficient: there is none such section", SectionEdgesTest::coefficientOfNone);
        test("3 coefficient: k is not one of its kind", SectionEdgesTest::coefficientNumbers);
        test("3 coefficient: of FIXED the bits are no short", SectionEdgesTest::coefficientShorts);
        test("3 coefficient: of FLOAT the bits are no int", SectionEdgesTest::coefficientInts);
        test("3 coefficient: of DOUBLE any bits", SectionEdgesTest::coefficientDoubles);
        test("3 coefficient: of a section wherever it stands", SectionEdgesTest::coefficientAnywhere);
        test("4 ratio: there is none such section", SectionEdgesTest::ratioOfNone);
        test("4 ratio: k is not one of its kind", SectionEdgesTest::ratioNumbers);
        test("4 ratio: den is 0", SectionEdgesTest::ratioByZero);
        test("4 ratio: of DOUBLE the double num by den", SectionEdgesTest::ratioDouble);
        test("4 ratio: of FLOAT that, rounded to a float", SectionEdgesTest::ratioFloat);
        test("4 ratio: of FIXED to the nearest, halves to the even one", SectionEdgesTest::ratioHalves);
        test("4 ratio: of FIXED no short", SectionEdgesTest::ratioNoShort);
        test("4 ratio: of CLIP, DEAD of FIXED it itself", SectionEdgesTest::ratioItself);
        test("4 ratio: of CLIP, DEAD of FIXED no short", SectionEdgesTest::ratioItselfNoShort);
        test("4 ratio: the least and the greatest num and den", SectionEdgesTest::ratioGreatest);
        test("5 rule: of a section of FIXED, no others", SectionEdgesTest::ruleOfOthers);
        test("5 rule: there is none such section", SectionEdgesTest::ruleOfNone);
        test("5 rule: another rounding", SectionEdgesTest::ruleRounding);
        test("5 rule: another limit", SectionEdgesTest::ruleLimit);
        test("13 state: of 1, 5, 11 s", SectionEdgesTest::stateOne);
        test("13 state: of 2 s0 .. s3, of 3 and 4 s0, s1", SectionEdgesTest::stateMore);
        test("13 state: of 6 to 8 the k-th of its latest n", SectionEdgesTest::stateRows);
        test("13 state: of 6 to 8 as long as there were fewer than n", SectionEdgesTest::stateRowsAtFirst);
        test("13 state: of 12 how many came, 0 .. n - 1", SectionEdgesTest::stateDown);
        test("13 state: of FIXED 100 the rest", SectionEdgesTest::stateRest);
        test("13 state: 0 for others", SectionEdgesTest::stateOthers);
        test("14 about: NONE for others", SectionEdgesTest::aboutOthers);
        test("14 about: chain and place, or NONE", SectionEdgesTest::aboutPlace);
        test("14 about: the chain within it, or NONE", SectionEdgesTest::aboutWithin);
        test("14 about: overs of all its sums", SectionEdgesTest::aboutOvers);
        test("14 about: touches", SectionEdgesTest::aboutTouches);
        test("14 about: length, rounding and limit", SectionEdgesTest::aboutRules);
        test("15 told: 0 if there is none such", SectionEdgesTest::toldNone);
        test("15 told: the bits of each coefficient", SectionEdgesTest::toldEach);
        test("25 count: NONE for another what", SectionEdgesTest::countOthers);
        test("25 count: what there is, full and beyond", SectionEdgesTest::countFull);
        Check.end();
    }

    private static void nothing(Bench x) {
    }

    // ---- promise 1 ----

    private static void newObject(Check t) {
        Bench x = new Bench();
        for (int what = 0; what < 3; what++) {
            t.due("count " + what, x.count(what), 0);
        }
        for (int what = 0; what < 10; what++) {
            t.due("about " + what, x.about(0, what), NONE);
        }
        for (int what = 0; what < 5; what++) {
            t.due("chain " + what, x.chain(0, what), NONE);
        }
        t.due("the first section", x.section(GAIN, DOUBLE, 0), 0);
        t.due("the first chain", x.chain(), 0);
        t.due("nothing kept", x.keep(0), 0);
        t.due("another object", new Bench().count(0), 0);
    }

    private static void newObjectRefuses(Check t) {
        Twins.Maker none = SectionEdgesTest::nothing;
        Twins.no(t, "coefficient", none, x -> x.coefficient(0, 0, 0));
        Twins.no(t, "ratio", none, x -> x.ratio(0, 0, 1, 2));
        Twins.no(t, "rule", none, x -> x.rule(0, 0, 0));
        Twins.none(t, "add", none, x -> x.add(0, 0));
        Twins.none(t, "loop", none, x -> x.loop(0, 0, 0, 1, 0));
        Twins.no(t, "within", none, x -> x.within(0, 0));
        Twins.none(t, "feed", none, x -> x.feed(0, 0));
        Twins.none(t, "run", none, x -> x.run(0, 1, 0));
        Twins.zero(t, "output", none, x -> x.output(0, 0));
        Twins.zero(t, "state", none, x -> x.state(0, 0));
        Twins.zero(t, "told", none, x -> x.told(0, 0));
        Twins.no(t, "reset", none, x -> x.reset(0));
        Twins.none(t, "keep", none, x -> x.keep(0));
        Twins.no(t, "back", none, x -> x.back(0));
        Twins.no(t, "same", none, x -> x.same(0));
        Twins.none(t, "poles", none, x -> x.poles(0));
        Twins.none(t, "cycles", none, x -> x.cycles(0));
        Twins.zero(t, "cycle", none, x -> x.cycle(0, 0, 1));
        Twins.none(t, "convert", none, x -> x.convert(0, 0));
        Twins.zero(t, "measure", none, x -> x.measure(0, 0));
    }

    // ---- promise 2 ----

    private static void numbers(Check t) {
        Bench x = new Bench();
        for (int i = 0; i < 48; i++) {
            t.due("section " + i, x.section(i % 16, i / 16, 2), i);
            t.due("count", x.count(0), i + 1);
        }
        for (int i = 0; i < 48; i++) {
            t.due("kind of " + i, x.about(i, 0), i % 16);
            t.due("sort of " + i, x.about(i, 1), i / 16);
        }
    }

    private static void sixty(Check t) {
        Bench x = new Bench();
        x.sections(58, GAIN, DOUBLE);
        t.due("a 59th", x.section(GAIN, FIXED, 7), 58);
        t.due("a 60th", x.section(DOWN, FLOAT, 8), 59);
        t.due("a 61st", x.section(GAIN, DOUBLE, 0), NONE);
        t.due("the 60th's kind", x.about(59, 0), DOWN);
        t.due("none came", x.about(60, 0), NONE);
        Twins.none(t, "a 61st", y -> y.sections(60, GAIN, DOUBLE), y -> y.section(GAIN, DOUBLE, 0));
        Twins.none(t, "a 61st, in a chain", y -> {
            y.alone(POLE, FIXED, 0, WHOLE, 8192);
            y.sections(59, DELAY, FIXED);
        }, y -> y.section(DELAY, FIXED, 3));
    }

    private static void kinds(Check t) {
        for (int kind = 0; kind < 16; kind++) {
            t.due("kind " + kind, new Bench().section(kind, DOUBLE, 2), 0);
        }
        int[] none = {-1, -2, 16, 17, LEAST, GREATEST};
        for (int kind : none) {
            Twins.none(t, "kind " + kind, x -> x.section(GAIN, DOUBLE, 0), x -> x.section(kind, DOUBLE, 2));
        }
    }

    private static void sorts(Check t) {
        for (int sort = 0; sort < 3; sort++) {
            Bench x = new Bench();
            t.due("sort " + sort, x.section(GAIN, sort, 0), 0);
            t.due("sort told " + sort, x.about(0, 1), sort);
        }
        int[] none = {-1, 3, 4, LEAST, GREATEST};
        for (int sort : none) {
            Twins.none(t, "sort " + sort, x -> x.section(GAIN, DOUBLE, 0), x -> x.section(GAIN, sort, 0));
        }
    }

    private static void lengths(Check t, int kind, int least, int most) {
        int[] fit = {least, least + 1, most - 1, most};
        int[] none = {least - 1, most + 1, -least, -most, 0, LEAST, GREATEST};
        for (int sort = 0; sort < 3; sort++) {
            int of = sort;
            for (int n : fit) {
                Bench x = new Bench();
                t.due("kind " + kind + ", length " + n, x.section(kind, sort, n), 0);
                t.due("its length", x.about(0, 2), n);
            }
            for (int n : none) {
                Twins.none(t, "kind " + kind + ", length " + n, x -> x.section(kind, of, most), x -> x.section(kind, of, n));
            }
        }
    }

    private static void lengthsOfDelays(Check t) {
        lengths(t, DELAY, 1, 64);
        lengths(t, COMB, 1, 64);
    }

    private static void lengthsOfMean(Check t) {
        lengths(t, MEAN, 1, 32);
    }

    private static void lengthsOfRates(Check t) {
        lengths(t, DOWN, 2, 8);
        lengths(t, UP, 2, 8);
        lengths(t, HOLD, 2, 8);
    }

    private static void lengthsOfOthers(Check t) {
        int[] kinds = {GAIN, POLE, DIRECT, SECOND, TURNED, PASS, CLIP, DEAD, PEAK, MIX};
        int[] lengths = {0, -1, 1, 65, LEAST, GREATEST};
        for (int kind : kinds) {
            Bench x = new Bench();
            for (int i = 0; i < lengths.length; i++) {
                t.due("kind " + kind + ", length " + lengths[i], x.section(kind, i % 3, lengths[i]), i);
            }
        }
    }

    private static void rulesAtFirst(Check t) {
        Bench x = new Bench();
        for (int i = 0; i < 48; i++) {
            x.section(i % 16, i / 16, 2);
            t.due("rounding of " + i, x.about(i, 8), 0);
            t.due("limit of " + i, x.about(i, 9), 0);
        }
        t.due("rounding 0: a half upwards", alone(GAIN, FIXED, 0, 8192).of(0, 1), 1);
        t.due("limit 0: the nearest", alone(GAIN, FIXED, 0, -32768).of(0, -32768), 32767);
    }

    // ---- promise 3 ----

    private static void twoGains(Bench x) {
        x.alone(GAIN, DOUBLE, 0, d(2));
        x.alone(GAIN, FIXED, 0, 8192);
    }

    private static void coefficientOfNone(Check t) {
        Bench x = new Bench();
        twoGains(x);
        t.yes("the first", x.coefficient(0, 0, d(3)));
        t.yes("the last", x.coefficient(1, 0, 5));
        t.due("the first", x.told(0, 0), d(3));
        t.due("the last", x.told(1, 0), 5);
        Twins.no(t, "behind the last", SectionEdgesTest::twoGains, y -> y.coefficient(2, 0, 5));
        Twins.no(t, "the 60th, where there are two", SectionEdgesTest::twoGains, y -> y.coefficient(59, 0, 5));
        Twins.no(t, "the 61st", SectionEdgesTest::twoGains, y -> y.coefficient(60, 0, 5));
        Twins.no(t, "the 61st of 60", y -> y.sections(60, GAIN, FIXED), y -> y.coefficient(60, 0, 5));
        for (int s : BESIDE_NUMBERS) {
            Twins.no(t, "section " + s, SectionEdgesTest::twoGains, y -> y.coefficient(s, 0, 5));
        }
    }

    private static void coefficientNumbers(Check t) {
        for (int kind = 0; kind < 16; kind++) {
            int of = kind;
            Twins.Maker one = x -> x.alone(of, FIXED, 2, 1, 2, 3, 4, 5);
            for (int sort = 0; sort < 3; sort++) {
                for (int k = 0; k < FACTORS[kind]; k++) {
                    Bench x = alone(kind, sort, 2);
                    t.yes("coefficient " + k + " of " + kind, x.coefficient(0, k, 9));
                    for (int other = 0; other < 6; other++) {
                        t.due("told " + other + " of " + kind, x.told(0, other), other == k ? 9 : 0);
                    }
                }
            }
            int[] none = {-1, FACTORS[kind], FACTORS[kind] + 1, 5, 100, LEAST, GREATEST};
            for (int k : none) {
                Twins.no(t, "coefficient " + k + " of " + kind, one, x -> x.coefficient(0, k, 9));
            }
        }
    }

    private static void coefficientShorts(Check t) {
        Bench x = new Bench();
        twoGains(x);
        long[] fit = {-32768, -32767, -1, 0, 1, 32766, 32767};
        for (long b : fit) {
            t.yes("" + b, x.coefficient(1, 0, b));
            t.due("" + b, x.told(1, 0), b);
        }
        long[] none = {-32769, 32768, 65535, 65536, 65541, -65536, 1L << 32, (1L << 32) + 5, (1L << 62) + 5,
            LEAST, GREATEST, Long.MIN_VALUE, Long.MAX_VALUE};
        for (long b : none) {
            Twins.no(t, "" + b, SectionEdgesTest::twoGains, y -> y.coefficient(1, 0, b));
        }
        Twins.no(t, "of CLIP", y -> y.alone(CLIP, FIXED, 0, 7), y -> y.coefficient(0, 0, 32768));
        Twins.no(t, "of MIX", y -> y.alone(MIX, FIXED, 0, 7, 8), y -> y.coefficient(0, 1, -32769));
    }

    private static void coefficientInts(Check t) {
        Bench x = alone(GAIN, FLOAT, 0, f(2));
        long[] fit = {LEAST, LEAST + 1, -8388609, 0, 1, f(1), f(-1), 0x7f800000L};
        for (long b : fit) {
            t.yes("" + b, x.coefficient(0, 0, b));
            t.due("" + b, x.told(0, 0), b);
        }
        t.yes("the greatest int", x.coefficient(0, 0, GREATEST));
        t.due("the greatest int", x.told(0, 0), FLOAT_NAN);
        long[] none = {LEAST - 1L, GREATEST + 1L, 0xffffffffL, 1L << 32, (1L << 32) + f(1), Long.MIN_VALUE, Long.MAX_VALUE};
        for (long b : none) {
            Twins.no(t, "" + b, y -> y.alone(GAIN, FLOAT, 0, f(2)), y -> y.coefficient(0, 0, b));
        }
    }

    private static void coefficientDoubles(Check t) {
        Bench x = alone(GAIN, DOUBLE, 0);
        long[] fit = {0, Long.MIN_VALUE, 1, Long.MIN_VALUE + 1, INFINITY, INFINITY - 1, d(Double.NEGATIVE_INFINITY),
            -32769, 32768, GREATEST + 1L, LEAST - 1L, NAN};
        for (long b : fit) {
            t.yes("" + b, x.coefficient(0, 0, b));
            t.due("" + b, x.told(0, 0), b == -32769 || b == LEAST - 1L ? NAN : b);
        }
        t.yes("the greatest", x.coefficient(0, 0, Long.MAX_VALUE));
        t.due("the greatest", x.told(0, 0), NAN);
    }

    private static void coefficientAnywhere(Check t) {
        Bench x = alone(GAIN, DOUBLE, 0, d(2));
        x.alone(MIX, DOUBLE, 0, d(0), d(1));
        x.within(1, 0);
        t.due("ahead", x.of(1, d(3)), d(6));
        t.yes("within a MIX", x.coefficient(0, 0, d(5)));
        t.due("behind", x.of(1, d(3)), d(15));
        t.yes("of the MIX", x.coefficient(1, 1, d(-1)));
        t.due("behind", x.of(1, d(3)), d(-15));
        int loose = x.section(GAIN, DOUBLE, 0);
        t.yes("in no chain", x.coefficient(loose, 0, d(7)));
        t.due("in no chain", x.told(loose, 0), d(7));
    }

    // ---- promise 4 ----

    private static void ratioOfNone(Check t) {
        Bench x = new Bench();
        twoGains(x);
        t.yes("the first", x.ratio(0, 0, 1, 4));
        t.yes("the last", x.ratio(1, 0, 1, 4));
        t.due("the first", x.told(0, 0), d(0.25));
        t.due("the last", x.told(1, 0), 4096);
        int[] none = {-1, 2, 59, 60, LEAST, GREATEST};
        for (int s : none) {
            Twins.no(t, "section " + s, SectionEdgesTest::twoGains, y -> y.ratio(s, 0, 1, 4));
        }
        Twins.no(t, "the 61st of 60", y -> y.sections(60, GAIN, FIXED), y -> y.ratio(60, 0, 1, 4));
    }

    private static void ratioNumbers(Check t) {
        for (int kind = 0; kind < 16; kind++) {
            int of = kind;
            for (int k = 0; k < FACTORS[kind]; k++) {
                Bench x = alone(kind, DOUBLE, 2);
                t.yes("coefficient " + k + " of " + kind, x.ratio(0, k, 3, 2));
                for (int other = 0; other < 6; other++) {
                    t.due("told " + other + " of " + kind, x.told(0, other), other == k ? d(1.5) : 0);
                }
            }
            int[] none = {-1, FACTORS[kind], FACTORS[kind] + 1, 5, LEAST, GREATEST};
            for (int k : none) {
                Twins.no(t, "coefficient " + k + " of " + kind, x -> x.alone(of, FIXED, 2, 1, 2, 3, 4, 5),
                        x -> x.ratio(0, k, 1, 2));
            }
        }
    }

    private static void ratioByZero(Check t) {
        int[] nums = {0, 1, -1, LEAST, GREATEST};
        for (int sort = 0; sort < 3; sort++) {
            int of = sort;
            for (int num : nums) {
                Twins.no(t, num + " by 0 of sort " + sort, x -> x.alone(GAIN, of, 0, one(of)), x -> x.ratio(0, 0, num, 0));
                Twins.no(t, num + " by 0 of CLIP", x -> x.alone(CLIP, of, 0, one(of)), x -> x.ratio(0, 0, num, 0));
            }
            Bench x = alone(GAIN, sort, 0);
            t.yes("by 1", x.ratio(0, 0, 1, 1));
            t.due("by 1", x.told(0, 0), one(sort));
            t.yes("by -1", x.ratio(0, 0, -1, -1));
            t.due("by -1", x.told(0, 0), one(sort));
            t.yes("0 by 1", x.ratio(0, 0, 0, 1));
            t.due("0 by 1", x.told(0, 0), 0);
        }
    }

    private static void ratioDouble(Check t) {
        int[][] pairs = {{1, 3}, {-1, 3}, {2, -3}, {-2, -3}, {1, 10}, {0, 7}, {22, 7}, {1, 1 << 30}, {GREATEST, 3},
            {GREATEST, GREATEST - 1}, {GREATEST - 1, GREATEST}, {3, 1}, {81054652, 201367923}, {941757922, -267749450},
            {830788415, 1616716718}, {-1816008865, 994058526}};
        Bench x = alone(GAIN, DOUBLE, 0);
        for (int[] p : pairs) {
            t.yes(p[0] + " by " + p[1], x.ratio(0, 0, p[0], p[1]));
            t.due(p[0] + " by " + p[1], x.told(0, 0), d((double) p[0] / p[1]));
        }
    }

    private static void ratioFloat(Check t) {
        int[][] pairs = {{1, 3}, {-1, 3}, {2, -3}, {-2, -3}, {1, 10}, {0, 7}, {22, 7}, {1, 1 << 30}, {GREATEST, 3},
            {(1 << 24) + 1, 1}, {(1 << 24) + 3, 1}, {(1 << 24) + 2, 1}, {(1 << 25) + 3, 1}, {-(1 << 24) - 1, 1}, {3, 1}};
        Bench x = alone(GAIN, FLOAT, 0);
        for (int[] p : pairs) {
            t.yes(p[0] + " by " + p[1], x.ratio(0, 0, p[0], p[1]));
            t.due(p[0] + " by " + p[1], x.told(0, 0), f((double) p[0] / p[1]));
        }
        t.yes("half way", x.ratio(0, 0, (1 << 24) + 1, 1));
        t.due("half way, to the even one", x.told(0, 0), f(0x1p24));
        t.yes("half way", x.ratio(0, 0, (1 << 24) + 3, 1));
        t.due("half way, to the even one upwards", x.told(0, 0), f(0x1p24 + 4));
    }

    /** Each num / den becomes, as a coefficient of FIXED, the one that is due. */
    private static void ratios(Check t, int kind, int[][] pairs) {
        for (int[] p : pairs) {
            Bench x = alone(kind, FIXED, 0, 77);
            t.yes(p[0] + " by " + p[1], x.ratio(0, 0, p[0], p[1]));
            t.due(p[0] + " by " + p[1], x.told(0, 0), p[2]);
        }
    }

    private static void noRatios(Check t, int kind, int[][] pairs) {
        for (int[] p : pairs) {
            Twins.no(t, p[0] + " by " + p[1], x -> x.alone(kind, FIXED, 0, 77), x -> x.ratio(0, 0, p[0], p[1]));
        }
    }

    private static void ratioHalves(Check t) {
        ratios(t, GAIN, new int[][] {{1, 32769, 0}, {1, 32768, 0}, {1, 32767, 1}, {3, 32769, 1}, {3, 32768, 2},
            {3, 32767, 2}, {5, 32768, 2}, {50001, 327680000, 3}, {7, 32768, 4}});
        ratios(t, GAIN, new int[][] {{-1, 32769, 0}, {-1, 32768, 0}, {-1, 32767, -1}, {3, -32768, -2}, {-5, 32768, -2},
            {50001, -327680000, -3}, {-7, 32768, -4}, {-3, -32768, 2}, {-1, -32767, 1}});
        ratios(t, GAIN, new int[][] {{1, 3, 5461}, {2, 3, 10923}, {-1, 3, -5461}, {-2, 3, -10923}, {1, 1, 16384}});
    }

    private static void ratioNoShort(Check t) {
        ratios(t, GAIN, new int[][] {{32767, 16384, 32767}, {131069, 65536, 32767}, {-2, 1, -32768}, {2, -1, -32768},
            {-131073, 65536, -32768}, {-65537, 32768, -32768}, {-131071, 65536, -32768}});
        noRatios(t, GAIN, new int[][] {{2, 1}, {-2, -1}, {65535, 32768}, {131071, 65536}, {-131075, 65536}, {-32769, 16384},
            {3, 1}, {-3, 1}, {4, 1}, {-5, 1}});
    }

    private static void ratioItself(Check t) {
        for (int kind = CLIP; kind <= DEAD; kind++) {
            ratios(t, kind, new int[][] {{1, 1, 1}, {1, 2, 0}, {3, 2, 2}, {5, 2, 2}, {7, 2, 4}, {-1, 2, 0}, {-3, 2, -2},
                {5, -2, -2}, {-7, -2, 4}, {1, 3, 0}, {2, 3, 1}, {-2, 3, -1}, {1000001, 2000000, 1}, {999999, 2000000, 0}});
            Bench x = alone(kind, DOUBLE, 0);
            t.yes("of DOUBLE", x.ratio(0, 0, 7, 2));
            t.due("of DOUBLE", x.told(0, 0), d(3.5));
        }
        ratios(t, PEAK, new int[][] {{1, 2, 8192}});
    }

    private static void ratioItselfNoShort(Check t) {
        for (int kind = CLIP; kind <= DEAD; kind++) {
            ratios(t, kind, new int[][] {{32767, 1, 32767}, {131069, 4, 32767}, {-32768, 1, -32768}, {-65537, 2, -32768},
                {-131071, 4, -32768}, {32768, -1, -32768}});
            noRatios(t, kind, new int[][] {{32768, 1}, {65535, 2}, {131071, 4}, {-32769, 1}, {-131075, 4}, {-32768, -1},
                {65536, 1}, {65541, 1}, {-65536, 1}});
        }
    }

    private static void ratioGreatest(Check t) {
        int[] edges = {LEAST, LEAST + 1, GREATEST - 1, GREATEST, 1, -1};
        for (int num : edges) {
            for (int den : edges) {
                Bench x = alone(GAIN, DOUBLE, 0);
                t.yes(num + " by " + den, x.ratio(0, 0, num, den));
                t.due(num + " by " + den, x.told(0, 0), d((double) num / den));
                Bench y = alone(GAIN, FLOAT, 0);
                t.yes(num + " by " + den + " of FLOAT", y.ratio(0, 0, num, den));
                t.due(num + " by " + den + " of FLOAT", y.told(0, 0), f((double) num / den));
            }
        }
        ratios(t, GAIN, new int[][] {{LEAST, LEAST, 16384}, {LEAST, GREATEST, -16384}, {GREATEST, LEAST, -16384},
            {GREATEST, GREATEST, 16384}, {1, LEAST, 0}, {LEAST, 1 << 30, -32768}});
        noRatios(t, GAIN, new int[][] {{LEAST, 1}, {LEAST, -1}, {GREATEST, 1}, {GREATEST, -1}, {LEAST, -(1 << 30)}});
        noRatios(t, CLIP, new int[][] {{LEAST, 1}, {LEAST, -1}, {GREATEST, 1}, {GREATEST, -1}});
    }

    // ---- promise 5 ----

    private static void ruleOfOthers(Check t) {
        for (int kind = 0; kind < 16; kind++) {
            int of = kind;
            for (int sort = DOUBLE; sort <= FLOAT; sort++) {
                int as = sort;
                Twins.no(t, "kind " + kind + " of sort " + sort, x -> x.alone(of, as, 2, one(as)), x -> x.rule(0, 1, 1));
                Twins.no(t, "as it is", x -> x.alone(of, as, 2, one(as)), x -> x.rule(0, 0, 0));
            }
            Bench x = alone(kind, FIXED, 2);
            t.yes("kind " + kind + " of FIXED", x.rule(0, 2, 1));
            t.due("rounding", x.about(0, 8), 2);
            t.due("limit", x.about(0, 9), 1);
        }
    }

    private static void ruleOfNone(Check t) {
        Bench x = new Bench();
        x.sections(60, POLE, FIXED);
        t.yes("the first", x.rule(0, 1, 0));
        t.yes("the last", x.rule(59, 2, 1));
        t.due("the first", x.about(0, 8), 1);
        t.due("the last", x.about(59, 8), 2);
        t.due("another", x.about(58, 8), 0);
        int[] none = {-1, 2, 59, 60, LEAST, GREATEST};
        for (int s : none) {
            Twins.no(t, "section " + s, SectionEdgesTest::twoGains, y -> y.rule(s, 1, 1));
        }
        Twins.no(t, "the 61st of 60", y -> y.sections(60, GAIN, FIXED), y -> y.rule(60, 1, 1));
    }

    private static void ruleRounding(Check t) {
        for (int rounding = 0; rounding < 3; rounding++) {
            Bench x = alone(GAIN, FIXED, 0, 8192);
            t.yes("rounding " + rounding, x.rule(0, rounding, 0));
            t.due("rounding " + rounding, x.about(0, 8), rounding);
            makes(t, "rounding " + rounding, x, raw(1, 1), raw(rounding == 0 ? 1 : 0, rounding == 1 ? 0 : 1));
        }
        int[] none = {-1, 3, 4, LEAST, GREATEST};
        for (int rounding : none) {
            Twins.no(t, "rounding " + rounding, x -> x.alone(GAIN, FIXED, 0, 8192), x -> x.rule(0, rounding, 1));
            Twins.no(t, "rounding " + rounding + " from 2", SectionEdgesTest::ruled, x -> x.rule(0, rounding, 0));
        }
    }

    private static void ruled(Bench x) {
        x.alone(GAIN, FIXED, 0, 8192);
        x.rule(0, 2, 1);
        x.feed(0, 1);
    }

    private static void ruleLimit(Check t) {
        for (int limit = 0; limit < 2; limit++) {
            Bench x = alone(GAIN, FIXED, 0, -32768);
            t.yes("limit " + limit, x.rule(0, 0, limit));
            t.due("limit " + limit, x.about(0, 9), limit);
            t.due("limit " + limit, x.of(0, -32768), limit == 0 ? 32767 : 0);
        }
        int[] none = {-1, 2, 3, LEAST, GREATEST};
        for (int limit : none) {
            Twins.no(t, "limit " + limit, x -> x.alone(GAIN, FIXED, 0, 8192), x -> x.rule(0, 1, limit));
            Twins.no(t, "limit " + limit + " from 1", SectionEdgesTest::ruled, x -> x.rule(0, 0, limit));
        }
        Bench y = new Bench();
        ruled(y);
        t.yes("another rule", y.rule(0, 0, 0));
        t.due("the rest stays", y.state(0, 100), 8192);
    }

    // ---- promise 13 ----

    private static void stateOne(Check t) {
        int[] kinds = {POLE, PASS, PEAK};
        for (int kind : kinds) {
            for (int sort = 0; sort < 3; sort++) {
                Bench x = alone(kind, sort, 0, one(sort));
                x.feed(0, sample(sort, 5));
                t.due("s of " + kind, x.state(0, 0), sample(sort, 5));
                int[] none = {-1, 1, 2, LEAST, GREATEST};
                for (int k : none) {
                    t.due("state " + k + " of " + kind, x.state(0, k), 0);
                }
            }
        }
    }

    private static void stateMore(Check t) {
        Bench x = alone(DIRECT, FIXED, 0, -WHOLE);
        x.feedAll(0, 3, 4, 5);
        t.due("DIRECT -1", x.state(0, -1), 0);
        states(t, "DIRECT", x, 0, 5, 4, -5, -4, 0, 0);
        Bench y = alone(SECOND, FIXED, 0, WHOLE);
        y.feedAll(0, 3, 4, 5);
        t.due("SECOND -1", y.state(0, -1), 0);
        states(t, "SECOND", y, 0, 5, 4, 0, 0);
        Bench z = alone(TURNED, FIXED, 0, WHOLE, WHOLE, -WHOLE);
        z.feedAll(0, 3, 4);
        t.due("TURNED -1", z.state(0, -1), 0);
        states(t, "TURNED", z, 0, 1, -4, 0, 0);
        Bench w = alone(DIRECT, FLOAT, 0, f(-1));
        w.feed(0, f(2));
        states(t, "of FLOAT", w, 0, f(2), 0, f(-2), 0, 0);
    }

    private static void stateRows(Check t) {
        int[] kinds = {DELAY, MEAN, COMB};
        int[] most = {64, 32, 64};
        for (int i = 0; i < kinds.length; i++) {
            int[] lengths = {1, 2, most[i] - 1, most[i]};
            for (int n : lengths) {
                Bench x = alone(kinds[i], FIXED, n);
                for (int v = 1; v <= n + 3; v++) {
                    x.feed(0, v);
                }
                t.due("kind " + kinds[i] + ", -1 of " + n, x.state(0, -1), 0);
                for (int k = 0; k < n; k++) {
                    t.due("kind " + kinds[i] + ", " + k + " of " + n, x.state(0, k), k + 4);
                }
                t.due("kind " + kinds[i] + ", n of " + n, x.state(0, n), 0);
                t.due("kind " + kinds[i] + ", n + 1 of " + n, x.state(0, n + 1), 0);
            }
        }
        Bench y = alone(COMB, FIXED, 2, WHOLE);
        y.feedAll(0, 1, 0, 5);
        states(t, "of COMB y, not x", y, 0, 0, 6, 0);
        Bench z = alone(MEAN, FIXED, 2, 8192);
        z.feedAll(0, 4, 8);
        states(t, "of MEAN samples", z, 0, 4, 8, 0);
    }

    private static void stateRowsAtFirst(Check t) {
        int[] kinds = {DELAY, MEAN, COMB};
        for (int kind : kinds) {
            Bench x = alone(kind, DOUBLE, 3);
            states(t, "none of " + kind, x, 0, 0, 0, 0, 0);
            x.feed(0, d(1));
            states(t, "one of " + kind, x, 0, 0, 0, d(1), 0);
            x.feed(0, d(2));
            states(t, "two of " + kind, x, 0, 0, d(1), d(2), 0);
            x.feed(0, d(3));
            states(t, "three of " + kind, x, 0, d(1), d(2), d(3), 0);
            x.feed(0, d(4));
            states(t, "four of " + kind, x, 0, d(2), d(3), d(4), 0);
        }
    }

    private static void stateDown(Check t) {
        int[] lengths = {2, 3, 8};
        for (int n : lengths) {
            for (int sort = 0; sort < 3; sort++) {
                Bench x = alone(DOWN, sort, n);
                for (int i = 0; i < 2 * n + 1; i++) {
                    long phase = x.state(0, 0);
                    t.due("the number, of " + n + " at " + i, phase, i % n);
                    t.due("0 when the next one goes on", x.feed(0, sample(sort, 3)), phase == 0 ? 1 : 0);
                }
                t.due("no second state", x.state(0, 1), 0);
                t.due("none below", x.state(0, -1), 0);
            }
        }
    }

    private static void stateRest(Check t) {
        for (int kind = 0; kind < 12; kind++) {
            Bench x = fixed(kind, 2, 0, 3, 3, 3, 3, 3);
            x.feed(0, 5);
            for (int i = 0; i < (kind == COMB ? 2 : kind == PEAK ? 1 : 0); i++) {
                x.feed(0, 0);
            }
            boolean none = kind == DELAY || kind == CLIP || kind == DEAD;
            t.due("a rest of " + kind, x.state(0, 100) != 0 ? 1 : 0, none ? 0 : 1);
            t.due("99", x.state(0, 99), 0);
            t.due("101", x.state(0, 101), 0);
        }
        t.due("of FIXED in no chain", restOfLoose(), 0);
        Bench y = alone(DELAY, FIXED, 64);
        y.run(0, 100, 1);
        t.due("of DELAY 64 the rest", y.state(0, 100), 0);
        for (int sort = DOUBLE; sort <= FLOAT; sort++) {
            Bench z = alone(GAIN, sort, 0, 3);
            z.feed(0, sample(sort, 1));
            t.due("none of sort " + sort, z.state(0, 100), 0);
        }
    }

    private static long restOfLoose() {
        Bench x = new Bench();
        x.section(GAIN, FIXED, 0);
        return x.state(0, 100);
    }

    private static void stateOthers(Check t) {
        int[] kinds = {GAIN, CLIP, DEAD, UP, HOLD, MIX};
        for (int kind : kinds) {
            Bench x = alone(kind, FIXED, 2, WHOLE, WHOLE);
            x.feedAll(0, 5, 6);
            for (int k = -1; k < 6; k++) {
                t.due("state " + k + " of " + kind, x.state(0, k), 0);
            }
        }
        Twins.Maker one = x -> {
            x.alone(POLE, DOUBLE, 0, d(1), d(0.5));
            x.feed(0, d(4));
        };
        int[] none = {-1, 1, 59, 60, LEAST, GREATEST};
        for (int s : none) {
            Twins.zero(t, "section " + s, one, x -> x.state(s, 0));
            Twins.zero(t, "section " + s + ", 100", one, x -> x.state(s, 100));
            Twins.zero(t, "state " + s + " of 0", one, x -> x.state(0, s));
        }
    }

    // ---- promise 14 ----

    private static void aboutOthers(Check t) {
        int[] whats = {-1, 10, 11, LEAST, GREATEST};
        for (int what : whats) {
            Twins.none(t, "what " + what, SectionEdgesTest::ruled, x -> x.about(0, what));
        }
        int[] none = {-1, 1, 59, 60, LEAST, GREATEST};
        for (int s : none) {
            for (int what = -1; what < 11; what++) {
                int which = what;
                Twins.none(t, "section " + s + ", what " + what, SectionEdgesTest::ruled, x -> x.about(s, which));
            }
        }
        Bench y = new Bench();
        ruled(y);
        for (int what = 0; what < 10; what++) {
            t.due("what " + what, y.about(0, what), new int[] {GAIN, FIXED, 0, 0, 0, 0, 0, NONE, 2, 1}[what]);
        }
    }

    private static void aboutPlace(Check t) {
        Bench x = new Bench();
        x.chains(20);
        x.sections(12, GAIN, DOUBLE);
        t.due("no chain", x.about(0, 3), NONE);
        t.due("no place", x.about(0, 4), NONE);
        for (int i = 0; i < 10; i++) {
            x.add(19, i);
        }
        x.add(0, 10);
        for (int i = 0; i < 10; i++) {
            t.due("the last chain", x.about(i, 3), 19);
            t.due("place " + i, x.about(i, 4), i);
        }
        t.due("the first chain", x.about(10, 3), 0);
        t.due("the first place", x.about(10, 4), 0);
        t.due("still no chain", x.about(11, 3), NONE);
        t.due("still no place", x.about(11, 4), NONE);
        x.add(19, 11);
        t.due("no chain, refused", x.about(11, 3), NONE);
        t.due("no place, refused", x.about(11, 4), NONE);
    }

    private static void aboutWithin(Check t) {
        Bench x = alone(GAIN, DOUBLE, 0);
        x.alone(MIX, DOUBLE, 0);
        t.due("none within", x.about(1, 7), NONE);
        t.due("none within a GAIN", x.about(0, 7), NONE);
        x.within(1, 0);
        t.due("chain 0 within", x.about(1, 7), 0);
        t.due("the GAIN's chain", x.about(0, 3), 0);
        x.reset(1);
        t.due("still within", x.about(1, 7), 0);
    }

    private static void aboutOvers(Check t) {
        Bench x = fixed(TURNED, 0, 0, -32768, -32768, -32768, 0, 0);
        x.feed(0, -16383);
        t.due("no over", x.about(0, 5), 0);
        x.reset(0);
        x.feed(0, -16384);
        t.due("three sums, three overs", x.about(0, 5), 3);
        x.feed(0, 0);
        t.due("no over more", x.about(0, 5), 3);
        x.reset(0);
        t.due("overs stay", x.about(0, 5), 3);
        x.run(0, 100, 4);
        t.yes("overs of both signs", x.about(0, 5) > 3);
        Bench y = alone(GAIN, DOUBLE, 0, d(2));
        y.feed(0, d(Double.MAX_VALUE));
        t.due("none of DOUBLE", y.about(0, 5), 0);
        Bench z = alone(HOLD, FIXED, 8);
        z.put(0, HOLD, FIXED, 8);
        z.put(0, GAIN, FIXED, 0, -32768);
        z.feed(0, -16384);
        t.due("one for each sample", z.about(2, 5), 64);
    }

    private static void aboutTouches(Check t) {
        Bench x = alone(CLIP, FIXED, 0, 5);
        x.feedAll(0, 5, -5, 0);
        t.due("none", x.about(0, 6), 0);
        x.feedAll(0, 6, -6);
        t.due("above and below", x.about(0, 6), 2);
        Bench y = alone(DEAD, FIXED, 0, 5);
        y.feedAll(0, 6, -6);
        t.due("none of DEAD", y.about(0, 6), 0);
        y.feedAll(0, 5, -5, 0);
        t.due("at most c0", y.about(0, 6), 3);
        Bench z = alone(PEAK, FIXED, 0, 5);
        z.feedAll(0, 6, -6, 0);
        t.due("none of another kind", z.about(0, 6), 0);
        Bench w = alone(HOLD, FIXED, 8);
        w.put(0, HOLD, FIXED, 8);
        w.put(0, DEAD, FIXED, 0, 5);
        w.run(0, 1, 5);
        t.due("one for each sample", w.about(2, 6), 64);
        w.run(0, 100, 65536);
        t.yes("no less", w.about(2, 6) >= 128);
    }

    private static void aboutRules(Check t) {
        Bench x = alone(DELAY, FIXED, 64);
        for (int rounding = 0; rounding < 3; rounding++) {
            for (int limit = 0; limit < 2; limit++) {
                x.rule(0, rounding, limit);
                t.due("length", x.about(0, 2), 64);
                t.due("rounding", x.about(0, 8), rounding);
                t.due("limit", x.about(0, 9), limit);
            }
        }
    }

    // ---- promises 15 and 25 ----

    private static void toldNone(Check t) {
        int[] none = {-1, 2, 59, 60, LEAST, GREATEST};
        for (int s : none) {
            Twins.zero(t, "section " + s, SectionEdgesTest::twoGains, x -> x.told(s, 0));
        }
        for (int kind = 0; kind < 16; kind++) {
            Bench x = alone(kind, FIXED, 2, 11, 12, 13, 14, 15);
            int[] ks = {-1, FACTORS[kind], FACTORS[kind] + 1, 5, 100, LEAST, GREATEST};
            for (int k : ks) {
                t.due("told " + k + " of " + kind, x.told(0, k), 0);
            }
        }
    }

    private static void toldEach(Check t) {
        for (int kind = 0; kind < 16; kind++) {
            for (int sort = 0; sort < 3; sort++) {
                long[] bits = {one(sort), 1, 32767, 0, 77};
                Bench x = alone(kind, sort, 2, bits);
                for (int k = 0; k < FACTORS[kind]; k++) {
                    t.due("told " + k + " of " + kind, x.told(0, k), bits[k]);
                }
            }
        }
    }

    private static void countOthers(Check t) {
        int[] none = {-1, 3, 4, LEAST, GREATEST};
        for (int what : none) {
            Twins.none(t, "what " + what, SectionEdgesTest::twoGains, x -> x.count(what));
        }
    }

    private static void countFull(Check t) {
        Bench x = new Bench();
        x.chain();
        for (int i = 0; i < 8; i++) {
            t.due("kept", x.count(2), i);
            x.keep(0);
        }
        x.keep(0);
        t.due("8 kept, and no more", x.count(2), 8);
        for (int i = 1; i < 20; i++) {
            t.due("chains", x.count(1), i);
            x.chain();
        }
        x.chain();
        t.due("20 chains, and no more", x.count(1), 20);
        for (int i = 0; i < 60; i++) {
            t.due("sections", x.count(0), i);
            x.section(GAIN, DOUBLE, 0);
        }
        x.section(GAIN, DOUBLE, 0);
        t.due("60 sections, and no more", x.count(0), 60);
    }
}
