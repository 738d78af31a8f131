/** The boundary cases of "Terms" III, and of promises 6 to 9 and 26. */
public final class ChainEdgesTest extends Edges {

    public static void main(String[] args) {
        test("6 chain(): its number, 20 at most", ChainEdgesTest::twenty);
        test("7 add: its place, from 0 on", ChainEdgesTest::places);
        test("7 add: no such chain", ChainEdgesTest::addToNone);
        test("7 add: no such section", ChainEdgesTest::addNone);
        test("7 add: it stands in one", ChainEdgesTest::addTwice);
        test("7 add: another sort than the first one's", ChainEdgesTest::addSorts);
        test("7 add: ten are there", ChainEdgesTest::addEleventh);
        test("7 add: a third of 13 and 14", ChainEdgesTest::addThird);
        test("7 add: the chain is within a MIX", ChainEdgesTest::addWithin);
        test("8 loop: how many, three are there", ChainEdgesTest::loopFourth);
        test("8 loop: no such chain", ChainEdgesTest::loopOfNone);
        test("8 loop: the chain is within a MIX", ChainEdgesTest::loopWithin);
        test("8 loop: a <= b", ChainEdgesTest::loopOrder);
        test("8 loop: both places that there are", ChainEdgesTest::loopPlaces);
        test("8 loop: no 12, 13, 14 from a to b", ChainEdgesTest::loopRates);
        test("8 loop: n is 1 .. 64", ChainEdgesTest::loopLengths);
        test("8 loop: bits that are none", ChainEdgesTest::loopBits);
        test("III loops: what came n samples ago, 0 where there was none", ChainEdgesTest::loopAgo);
        test("III loops: samples counted since the loop is there", ChainEdgesTest::loopSince);
        test("III loops: samples counted as place b gave them", ChainEdgesTest::loopCounted);
        test("III loops: from place b to place a", ChainEdgesTest::loopFromTo);
        test("III loops: several to one place, in their order", ChainEdgesTest::loopSeveral);
        test("III loops: rounding of the section at place a", ChainEdgesTest::loopRounding);
        test("III loops: limit of the section at place a", ChainEdgesTest::loopLimit);
        test("III loops: the rest of the section at place a", ChainEdgesTest::loopRest);
        test("III loops: to a MIX", ChainEdgesTest::loopToMix);
        test("9 within: no such section", ChainEdgesTest::withinNone);
        test("9 within: s is a MIX", ChainEdgesTest::withinMix);
        test("9 within: s stands in a chain", ChainEdgesTest::withinLoose);
        test("9 within: with none within it", ChainEdgesTest::withinTwo);
        test("9 within: no such chain", ChainEdgesTest::withinNoChain);
        test("9 within: a chain of a greater number than c", ChainEdgesTest::withinNumbers);
        test("9 within: of its sort", ChainEdgesTest::withinSorts);
        test("9 within: without 12, 13, 14", ChainEdgesTest::withinRates);
        test("9 within: in no other MIX", ChainEdgesTest::withinOther);
        test("9 within: a section at least", ChainEdgesTest::withinEmpty);
        test("III within a MIX: not fed alone any more", ChainEdgesTest::withinFed);
        test("III within a MIX: a MIX that stands in it is run with it", ChainEdgesTest::withinDeeper);
        test("III within a MIX: twenty chains, one in the other", ChainEdgesTest::withinTwenty);
        test("III what UP, HOLD make goes on sample by sample", ChainEdgesTest::wholeWay);
        test("III a chain of ten sections", ChainEdgesTest::oneBehindTheOther);
        test("26 chain(c, what): NONE for others", ChainEdgesTest::chainOthers);
        test("26 chain(c, what): sections and loops", ChainEdgesTest::chainCounts);
        test("26 chain(c, what): how many the output had", ChainEdgesTest::chainOutput);
        test("26 chain(c, what): the MIX that it is within, or NONE", ChainEdgesTest::chainMix);
        test("26 chain(c, what): sort, NONE without sections", ChainEdgesTest::chainSort);
        Check.end();
    }

    /** Chain 0 with a GAIN, chain 1 with a MIX: sections 0 and 1. */
    private static void gainAndMix(Bench x, int sort) {
        x.alone(GAIN, sort, 0, one(sort));
        x.alone(MIX, sort, 0, one(sort), one(sort));
    }

    /** The GAIN is within the MIX. */
    private static void gainInMix(Bench x) {
        gainAndMix(x, DOUBLE);
        x.within(1, 0);
        x.feed(1, d(3));
    }

    // ---- promise 6 ----

    private static void twenty(Check t) {
        Bench x = new Bench();
        for (int i = 0; i < 20; i++) {
            t.due("chain " + i, x.chain(), i);
            t.due("empty", x.chain(i, 0), 0);
            t.due("none behind it", x.chain(i + 1, 0), NONE);
        }
        t.due("a 21st", x.chain(), NONE);
        t.due("none came", x.chain(20, 0), NONE);
        Twins.none(t, "a 21st", y -> y.chains(20), y -> y.chain());
        Twins.none(t, "a 21st, with sections", y -> {
            y.chains(19);
            y.alone(DELAY, FIXED, 2);
            y.feed(19, 5);
        }, y -> y.chain());
    }

    // ---- promise 7 ----

    private static void places(Check t) {
        Bench x = new Bench();
        x.chains(2);
        x.sections(20, GAIN, FLOAT);
        for (int i = 0; i < 10; i++) {
            t.due("place " + i, x.add(0, 19 - i), i);
            t.due("place " + i + " of another", x.add(1, i), i);
            t.due("sections", x.chain(0, 0), i + 1);
        }
    }

    private static void loose(Bench x) {
        x.alone(GAIN, DOUBLE, 0, d(2));
        x.made(GAIN, DOUBLE, 0, d(3));
    }

    private static void addToNone(Check t) {
        Bench x = new Bench();
        loose(x);
        t.due("the chain that there is", x.add(0, 1), 1);
        int[] none = {-1, 1, 2, 19, 20, LEAST, GREATEST};
        for (int c : none) {
            Twins.none(t, "chain " + c, ChainEdgesTest::loose, y -> y.add(c, 1));
        }
        Twins.none(t, "the 21st of 20", y -> {
            y.chains(20);
            y.section(GAIN, DOUBLE, 0);
        }, y -> y.add(20, 0));
        Bench z = new Bench();
        z.chains(20);
        z.section(GAIN, DOUBLE, 0);
        t.due("the 20th of 20", z.add(19, 0), 0);
    }

    private static void addNone(Check t) {
        int[] none = {-1, 2, 3, 59, 60, LEAST, GREATEST};
        for (int s : none) {
            Twins.none(t, "section " + s, ChainEdgesTest::loose, x -> x.add(0, s));
        }
        Bench x = new Bench();
        x.chain();
        x.sections(60, GAIN, DOUBLE);
        t.due("the 61st of 60", x.add(0, 60), NONE);
        t.due("the 60th of 60", x.add(0, 59), 0);
    }

    private static void addTwice(Check t) {
        Twins.none(t, "in the same one", ChainEdgesTest::loose, x -> x.add(0, 0));
        Twins.Maker two = x -> {
            loose(x);
            x.chain();
        };
        Twins.none(t, "in another", two, x -> x.add(1, 0));
        Bench x = new Bench();
        two.make(x);
        t.due("one that stands in none", x.add(1, 1), 0);
        Twins.none(t, "one that stands in an empty one no longer", y -> {
            two.make(y);
            y.add(1, 1);
        }, y -> y.add(0, 1));
        Twins.none(t, "behind a reset", y -> {
            two.make(y);
            y.reset(0);
        }, y -> y.add(1, 0));
    }

    private static void addSorts(Check t) {
        for (int first = 0; first < 3; first++) {
            int sort = first;
            for (int second = 0; second < 3; second++) {
                int other = second;
                Twins.Maker both = x -> {
                    x.alone(GAIN, sort, 0, one(sort));
                    x.made(GAIN, other, 0, one(other));
                    x.chain();
                };
                if (sort == other) {
                    Bench x = new Bench();
                    both.make(x);
                    t.due("sort " + sort + " to itself", x.add(0, 1), 1);
                } else {
                    Twins.none(t, "sort " + other + " to " + sort, both, x -> x.add(0, 1));
                }
                Bench y = new Bench();
                both.make(y);
                t.due("any to an empty one", y.add(1, 1), 0);
            }
        }
    }

    private static void tens(Bench x, int size) {
        x.chain();
        for (int i = 0; i < size; i++) {
            x.put(0, GAIN, DOUBLE, 0, d(1 + i));
        }
        x.made(GAIN, DOUBLE, 0, d(1));
        x.chain();
    }

    private static void addEleventh(Check t) {
        Bench x = new Bench();
        tens(x, 8);
        t.due("a 9th", x.add(0, 8), 8);
        Bench y = new Bench();
        tens(y, 9);
        t.due("a 10th", y.add(0, 9), 9);
        Twins.none(t, "an 11th", z -> tens(z, 10), z -> z.add(0, 10));
        Bench w = new Bench();
        tens(w, 10);
        w.add(0, 10);
        t.due("to another, then", w.add(1, 10), 0);
        t.due("ten", w.chain(0, 0), 10);
        t.due("what ten make", w.of(0, d(1)), d(3628800));
    }

    private static void addThird(Check t) {
        int[] kinds = {UP, HOLD};
        for (int first : kinds) {
            for (int second : kinds) {
                Twins.Maker two = x -> {
                    x.alone(first, FIXED, 2);
                    x.put(0, DOWN, FIXED, 2);
                    x.put(0, second, FIXED, 3);
                    x.section(UP, FIXED, 2);
                    x.section(HOLD, FIXED, 2);
                    x.section(DOWN, FIXED, 2);
                    x.section(GAIN, FIXED, 2);
                    x.chain();
                };
                Twins.none(t, "a third, UP", two, x -> x.add(0, 3));
                Twins.none(t, "a third, HOLD", two, x -> x.add(0, 4));
                Bench x = new Bench();
                two.make(x);
                t.due("the second", x.about(2, 4), 2);
                t.due("DOWN", x.add(0, 5), 3);
                t.due("GAIN", x.add(0, 6), 4);
                t.due("to another", x.add(1, 3), 0);
                t.due("to another", x.add(1, 4), 1);
            }
        }
    }

    private static void addWithin(Check t) {
        Twins.Maker one = x -> {
            gainInMix(x);
            x.section(GAIN, DOUBLE, 0);
        };
        Twins.none(t, "to the one within", one, x -> x.add(0, 2));
        Bench x = new Bench();
        one.make(x);
        t.due("to the one that the MIX stands in", x.add(1, 2), 1);
        Bench y = new Bench();
        gainAndMix(y, DOUBLE);
        t.due("ahead of that", y.add(0, y.section(GAIN, DOUBLE, 0)), 1);
        t.yes("within", y.within(1, 0));
        t.due("behind it", y.add(0, y.section(GAIN, DOUBLE, 0)), NONE);
    }

    // ---- promise 8 ----

    private static void loops(Bench x, int many) {
        x.alone(GAIN, FIXED, 0, WHOLE);
        for (int i = 0; i < many; i++) {
            x.loop(0, 0, 0, i + 1, 8192);
        }
        x.feedAll(0, 100, -200);
    }

    private static void loopFourth(Check t) {
        for (int many = 0; many < 3; many++) {
            Bench x = new Bench();
            loops(x, many);
            t.due("one more than " + many, x.loop(0, 0, 0, 1, 0), many + 1);
            t.due("loops", x.chain(0, 1), many + 1);
        }
        Twins.none(t, "a fourth", x -> loops(x, 3), x -> x.loop(0, 0, 0, 1, 8192));
        Twins.none(t, "a fourth, to another place", x -> {
            loops(x, 3);
            x.put(0, GAIN, FIXED, 0, WHOLE);
        }, x -> x.loop(0, 1, 1, 1, 8192));
        Bench y = new Bench();
        loops(y, 3);
        y.alone(GAIN, FIXED, 0, WHOLE);
        t.due("of another chain", y.loop(1, 0, 0, 1, 8192), 1);
    }

    private static void loopOfNone(Check t) {
        int[] none = {-1, 1, 19, 20, LEAST, GREATEST};
        for (int c : none) {
            Twins.none(t, "chain " + c, x -> loops(x, 1), x -> x.loop(c, 0, 0, 1, 8192));
        }
        Bench x = new Bench();
        x.chains(19);
        x.alone(GAIN, FIXED, 0, WHOLE);
        t.due("the 20th of 20", x.loop(19, 0, 0, 1, 8192), 1);
        t.due("the 21st of 20", x.loop(20, 0, 0, 1, 8192), NONE);
    }

    private static void loopWithin(Check t) {
        Twins.none(t, "of the one within", ChainEdgesTest::gainInMix, x -> x.loop(0, 0, 0, 1, d(0.5)));
        Bench x = new Bench();
        gainInMix(x);
        t.due("of the one that the MIX stands in", x.loop(1, 0, 0, 1, d(0.5)), 1);
        Bench y = new Bench();
        gainAndMix(y, DOUBLE);
        t.due("ahead of that", y.loop(0, 0, 0, 1, d(0.5)), 1);
        t.yes("within", y.within(1, 0));
        t.due("the loop stays", y.chain(0, 1), 1);
        y.feedAll(1, d(1), d(0), d(0));
        outputs(t, "what is within", y, 0, d(1), d(0.5), d(0.25));
    }

    private static void three(Bench x) {
        x.alone(GAIN, FIXED, 0, WHOLE);
        x.put(0, GAIN, FIXED, 0, WHOLE);
        x.put(0, GAIN, FIXED, 0, WHOLE);
    }

    private static void loopOrder(Check t) {
        for (int a = 0; a < 3; a++) {
            for (int b = 0; b < 3; b++) {
                int from = a;
                int to = b;
                if (a <= b) {
                    Bench x = new Bench();
                    three(x);
                    t.due("from " + a + " to " + b, x.loop(0, a, b, 1, 8192), 1);
                } else {
                    Twins.none(t, "from " + a + " to " + b, ChainEdgesTest::three, x -> x.loop(0, from, to, 1, 8192));
                }
            }
        }
        Twins.none(t, "the greatest to 0", ChainEdgesTest::three, x -> x.loop(0, GREATEST, 0, 1, 8192));
    }

    private static void loopPlaces(Check t) {
        int[][] none = {{-1, 0}, {-1, -1}, {0, 3}, {2, 3}, {3, 3}, {LEAST, 0}, {0, GREATEST}, {GREATEST, GREATEST},
            {LEAST, LEAST}, {LEAST, GREATEST}, {-1, 3}};
        for (int[] p : none) {
            Twins.none(t, "from " + p[0] + " to " + p[1], ChainEdgesTest::three, x -> x.loop(0, p[0], p[1], 1, 8192));
        }
        Twins.none(t, "of an empty chain", x -> x.chain(), x -> x.loop(0, 0, 0, 1, 0));
        Twins.none(t, "of an empty chain", x -> x.chain(), x -> x.loop(0, 0, -1, 1, 0));
        Bench x = new Bench();
        three(x);
        t.due("no place 3 yet", x.loop(0, 3, 3, 1, 0), NONE);
        x.put(0, GAIN, FIXED, 0);
        t.due("place 3", x.loop(0, 3, 3, 1, 0), 1);
        Bench y = new Bench();
        tens(y, 10);
        t.due("all ten", y.loop(0, 0, 9, 1, 0), 1);
        t.due("the last alone", y.loop(0, 9, 9, 1, 0), 2);
        t.due("an 11th", y.loop(0, 9, 10, 1, 0), NONE);
    }

    private static void loopRates(Check t) {
        for (int kind = DOWN; kind <= HOLD; kind++) {
            int rate = kind;
            Twins.Maker around = x -> {
                x.alone(GAIN, FIXED, 0, WHOLE);
                x.put(0, GAIN, FIXED, 0, WHOLE);
                x.put(0, rate, FIXED, 2);
                x.put(0, GAIN, FIXED, 0, WHOLE);
                x.put(0, GAIN, FIXED, 0, WHOLE);
            };
            for (int a = 0; a < 5; a++) {
                for (int b = a; b < 5; b++) {
                    int from = a;
                    int to = b;
                    if (a <= 2 && b >= 2) {
                        Twins.none(t, kind + " from " + a + " to " + b, around, x -> x.loop(0, from, to, 1, 8192));
                    } else {
                        Bench x = new Bench();
                        around.make(x);
                        t.due(kind + " beside " + a + " to " + b, x.loop(0, a, b, 1, 8192), 1);
                    }
                }
            }
        }
        Bench y = alone(PEAK, FIXED, 0, WHOLE);
        y.put(0, MIX, FIXED, 0, WHOLE);
        t.due("11 and 15", y.loop(0, 0, 1, 1, 8192), 1);
    }

    private static void loopLengths(Check t) {
        int[] fit = {1, 2, 63, 64};
        for (int n : fit) {
            Bench x = new Bench();
            three(x);
            t.due("n " + n, x.loop(0, 0, 1, n, 8192), 1);
        }
        int[] none = {0, -1, 65, 66, LEAST, GREATEST};
        for (int n : none) {
            Twins.none(t, "n " + n, ChainEdgesTest::three, x -> x.loop(0, 0, 1, n, 8192));
        }
    }

    private static void loopBits(Check t) {
        long[][] fit = {{Long.MIN_VALUE, Long.MAX_VALUE, 32768}, {LEAST, GREATEST, 32768}, {-32768, 32767, 0}};
        long[][] none = {{}, {LEAST - 1L, GREATEST + 1L, 1L << 32, Long.MIN_VALUE, Long.MAX_VALUE},
            {-32769, 32768, 65536, 1L << 32, LEAST, GREATEST, Long.MIN_VALUE, Long.MAX_VALUE}};
        for (int s = 0; s < 3; s++) {
            int sort = s;
            Twins.Maker maker = x -> x.alone(GAIN, sort, 0, one(sort));
            for (int i = 0; i < 3; i++) {
                Bench x = new Bench();
                maker.make(x);
                t.due("bits " + fit[s][i], x.loop(0, 0, 0, 1, fit[s][i]), 1);
            }
            for (long bits : none[s]) {
                Twins.none(t, "bits " + bits + " of " + sort, maker, x -> x.loop(0, 0, 0, 1, bits));
            }
        }
        Bench y = alone(GAIN, FIXED, 0, WHOLE);
        y.loop(0, 0, 0, 1, -32768);
        makes(t, "-2", y, raw(1, 0, 0), raw(1, -2, 4));
        Bench z = alone(GAIN, FLOAT, 0, f(1));
        z.loop(0, 0, 0, 1, GREATEST);
        makes(t, "not a number", z, raw(f(1), f(1)), raw(FLOAT_NAN, FLOAT_NAN));
    }

    // ---- what loops make ----

    private static void loopAgo(Check t) {
        int[] lengths = {1, 2, 63, 64};
        for (int n : lengths) {
            Bench x = alone(GAIN, FIXED, 0, WHOLE);
            x.loop(0, 0, 0, n, -8192);
            x.feed(0, 8);
            for (int i = 1; i <= 2 * n; i++) {
                t.due("n " + n + " at " + i, x.of(0, 0), i == n ? -4 : i == 2 * n ? 2 : 0);
            }
        }
        Bench y = alone(GAIN, DOUBLE, 0, d(1));
        y.loop(0, 0, 0, 1, d(1));
        t.due("0 where there was none", y.of(0, d(-0.0)), 0);
        Bench z = alone(GAIN, DOUBLE, 0, d(1));
        z.loop(0, 0, 0, 1, INFINITY);
        t.due("g by 0 where there was none", z.of(0, d(1)), NAN);
    }

    private static void loopSince(Check t) {
        Bench x = alone(GAIN, FIXED, 0, WHOLE);
        x.feedAll(0, 100, 200, 300);
        x.loop(0, 0, 0, 1, WHOLE);
        makes(t, "one ago", x, raw(1, 1, 1), raw(1, 2, 3));
        x.loop(0, 0, 0, 2, WHOLE);
        makes(t, "two ago since the second", x, raw(0, 0, 0, 0), raw(3, 3, 6, 9));
        x.reset(0);
        makes(t, "none behind a reset", x, raw(0, 0, 0), raw(0, 0, 0));
    }

    private static void loopCounted(Check t) {
        Bench x = alone(DOWN, FIXED, 3);
        x.put(0, GAIN, FIXED, 0, WHOLE);
        x.loop(0, 1, 1, 1, WHOLE);
        x.feedAll(0, 1, 50, 50, 10, 50, 50, 100, 50, 50, 0);
        outputs(t, "behind DOWN", x, 0, 1, 11, 111, 111);
        Bench y = alone(GAIN, FIXED, 0, WHOLE);
        y.put(0, DOWN, FIXED, 3);
        y.loop(0, 0, 0, 1, WHOLE);
        y.feedAll(0, 1, 10, 100, 0, 0, 0, 1);
        outputs(t, "ahead of DOWN", y, 0, 1, 111, 112);
        Bench z = alone(HOLD, FIXED, 3);
        z.put(0, GAIN, FIXED, 0, WHOLE);
        z.loop(0, 1, 1, 2, WHOLE);
        z.feedAll(0, 1, 10);
        outputs(t, "behind HOLD", z, 0, 1, 1, 2, 11, 12, 21);
        Bench w = alone(UP, FIXED, 2);
        w.put(0, GAIN, FIXED, 0, WHOLE);
        w.loop(0, 1, 1, 1, WHOLE);
        w.feedAll(0, 1, 10);
        outputs(t, "behind UP", w, 0, 1, 1, 11, 11);
    }

    private static void loopFromTo(Check t) {
        Bench x = alone(GAIN, DOUBLE, 0, d(2));
        x.put(0, GAIN, DOUBLE, 0, d(3));
        x.put(0, GAIN, DOUBLE, 0, d(5));
        x.loop(0, 1, 2, 1, d(0.5));
        makes(t, "from the last to the second", x, raw(d(1), d(0), d(0)), raw(d(30), d(225), d(1687.5)));
        Bench y = alone(GAIN, DOUBLE, 0, d(2));
        y.put(0, GAIN, DOUBLE, 0, d(3));
        y.put(0, GAIN, DOUBLE, 0, d(5));
        y.loop(0, 0, 1, 1, d(0.5));
        makes(t, "from the second to the first", y, raw(d(1), d(0), d(0)), raw(d(30), d(90), d(270)));
        Bench z = alone(DELAY, FIXED, 2);
        z.loop(0, 0, 0, 1, WHOLE);
        makes(t, "what went out, not what came", z, raw(1, 0, 0, 0, 0, 0, 0), raw(0, 0, 1, 0, 0, 1, 0));
    }

    private static void loopSeveral(Check t) {
        for (int order = 0; order < 2; order++) {
            Bench x = alone(GAIN, DOUBLE, 0, d(1));
            x.put(0, GAIN, DOUBLE, 0, d(1e16));
            x.loop(0, 0, 1 - order, 1, d(1));
            x.loop(0, 0, order, 1, d(1));
            x.feedAll(0, d(1), d(1));
            t.due("order " + order, x.last(0), d((order == 0 ? 1e16 : 1e16 + 2) * 1e16));
        }
        Bench y = alone(GAIN, FIXED, 0, WHOLE);
        for (int i = 0; i < 3; i++) {
            y.loop(0, 0, 0, 1, 8192);
        }
        makes(t, "three, each rounded", y, raw(1, 0), raw(1, 3));
        Bench z = fixed(GAIN, 0, 0, WHOLE);
        z.loop(0, 0, 0, 1, WHOLE);
        z.loop(0, 0, 0, 1, -WHOLE);
        makes(t, "two, each cut", z, raw(32767, 5), raw(32767, 0));
    }

    private static Bench loopedTwo(int roundingOfFirst, int roundingOfSecond) {
        Bench x = alone(GAIN, FIXED, 0, WHOLE);
        x.put(0, GAIN, FIXED, 0, WHOLE);
        x.rule(0, roundingOfFirst, 0);
        x.rule(1, roundingOfSecond, 0);
        x.loop(0, 0, 1, 1, 8192);
        return x;
    }

    private static void loopRounding(Check t) {
        makes(t, "halves upwards at a", loopedTwo(0, 1), raw(3, 0, 0, 0), raw(3, 2, 1, 1));
        makes(t, "towards 0 at a", loopedTwo(1, 0), raw(3, 0, 0, 0), raw(3, 1, 0, 0));
        makes(t, "halves upwards below 0", loopedTwo(0, 1), raw(-3, 0, 0), raw(-3, -1, 0));
        makes(t, "towards 0 below 0", loopedTwo(1, 0), raw(-3, 0, 0), raw(-3, -1, 0));
    }

    private static void loopLimit(Check t) {
        for (int limit = 0; limit < 2; limit++) {
            Bench x = alone(GAIN, FIXED, 0, WHOLE);
            x.put(0, GAIN, FIXED, 0, WHOLE);
            x.rule(0, 0, limit);
            x.rule(1, 0, 1 - limit);
            x.loop(0, 0, 1, 1, WHOLE);
            x.feed(0, 32766);
            t.due("32767", x.of(0, 1), 32767);
            t.due("32768", x.of(0, 1), limit == 0 ? 32767 : -32768);
            x.reset(0);
            x.feed(0, -32767);
            t.due("-32768", x.of(0, -1), -32768);
            t.due("-32769", x.of(0, -1), limit == 0 ? -32768 : 32767);
            t.due("no overs at b", x.about(1, 5), 0);
        }
    }

    private static void loopRest(Check t) {
        Bench x = loopedTwo(2, 0);
        makes(t, "the rest is added", x, raw(1, 0, 0, 0), raw(1, 0, 0, 0));
        t.due("the rest at a", x.state(0, 100), 8192);
        t.due("none at b", x.state(1, 100), 0);
        makes(t, "the rest is added", x, raw(1), raw(1));
        makes(t, "the rest is used up", x, raw(0), raw(1));
        t.due("the rest at a", x.state(0, 100), 0);
        Bench y = fixed(GAIN, 2, 0, 8192);
        y.loop(0, 0, 0, 1, 4096);
        makes(t, "one rest for the loop and the section", y, raw(3, 0), raw(1, 0));
        t.due("the rest", y.state(0, 100), 8192 + 4096);
        makes(t, "one rest for the loop and the section", y, raw(1, 0), raw(1, 0));
        t.due("the rest", y.state(0, 100), 8192);
    }

    private static void loopToMix(Check t) {
        Bench x = alone(DELAY, FIXED, 1);
        x.alone(MIX, FIXED, 0, WHOLE, WHOLE);
        x.within(1, 0);
        x.loop(1, 0, 0, 1, WHOLE);
        x.feedAll(1, 1, 0, 0, 0);
        outputs(t, "the MIX", x, 1, 1, 2, 3, 5);
        outputs(t, "what is within gets what came to the MIX", x, 0, 0, 1, 1, 2);
    }

    // ---- promise 9 ----

    private static void withinNone(Check t) {
        int[] none = {-1, 2, 59, 60, LEAST, GREATEST};
        for (int s : none) {
            Twins.no(t, "section " + s, x -> gainAndMix(x, DOUBLE), x -> x.within(s, 0));
        }
        Bench x = new Bench();
        gainAndMix(x, DOUBLE);
        t.yes("the one that there is", x.within(1, 0));
        t.due("within it", x.about(1, 7), 0);
        t.due("it is within", x.chain(0, 3), 1);
    }

    private static void withinMix(Check t) {
        for (int kind = 0; kind < 16; kind++) {
            int of = kind;
            Twins.Maker maker = x -> {
                x.alone(GAIN, DOUBLE, 0, d(2));
                x.alone(of, DOUBLE, 2, d(1));
            };
            if (kind == MIX) {
                Bench x = new Bench();
                maker.make(x);
                t.yes("kind " + kind, x.within(1, 0));
            } else {
                Twins.no(t, "kind " + kind, maker, x -> x.within(1, 0));
            }
        }
    }

    private static void withinLoose(Check t) {
        Twins.Maker maker = x -> {
            x.alone(GAIN, DOUBLE, 0, d(2));
            x.made(MIX, DOUBLE, 0, d(1), d(1));
            x.chain();
        };
        Twins.no(t, "it stands in none", maker, x -> x.within(1, 0));
        Bench x = new Bench();
        maker.make(x);
        x.add(1, 1);
        t.yes("it stands in one", x.within(1, 0));
    }

    private static void withinTwo(Check t) {
        Twins.Maker maker = x -> {
            x.alone(GAIN, DOUBLE, 0, d(2));
            x.alone(GAIN, DOUBLE, 0, d(3));
            x.alone(MIX, DOUBLE, 0, d(1), d(1));
            x.put(2, MIX, DOUBLE, 0, d(1), d(1));
            x.within(2, 0);
        };
        Twins.no(t, "one is within it", maker, x -> x.within(2, 1));
        Twins.no(t, "the same one", maker, x -> x.within(2, 0));
        Bench x = new Bench();
        maker.make(x);
        t.yes("another MIX of that chain", x.within(3, 1));
        t.due("both", x.of(2, d(1)), d(12));
    }

    private static void withinNoChain(Check t) {
        int[] none = {-1, 2, 19, 20, LEAST, GREATEST};
        for (int c : none) {
            Twins.no(t, "chain " + c, x -> gainAndMix(x, DOUBLE), x -> x.within(1, c));
        }
    }

    private static void withinNumbers(Check t) {
        Twins.Maker maker = x -> {
            for (int i = 0; i < 3; i++) {
                x.alone(GAIN, DOUBLE, 0, d(2));
                x.put(i, MIX, DOUBLE, 0, d(1), d(1));
            }
        };
        for (int s = 0; s < 3; s++) {
            for (int c = 0; c < 3; c++) {
                int mix = 2 * s + 1;
                int inner = c;
                if (s > c) {
                    Bench x = new Bench();
                    maker.make(x);
                    t.yes("chain " + c + " in " + s, x.within(mix, c));
                } else {
                    Twins.no(t, "chain " + c + " in " + s, maker, x -> x.within(mix, inner));
                }
            }
        }
    }

    private static void withinSorts(Check t) {
        for (int inner = 0; inner < 3; inner++) {
            for (int outer = 0; outer < 3; outer++) {
                int of = inner;
                int to = outer;
                Twins.Maker maker = x -> {
                    x.alone(GAIN, of, 0, one(of));
                    x.alone(MIX, to, 0, one(to));
                };
                if (of == to) {
                    Bench x = new Bench();
                    maker.make(x);
                    t.yes("sort " + of + " in itself", x.within(1, 0));
                } else {
                    Twins.no(t, "sort " + of + " in " + to, maker, x -> x.within(1, 0));
                }
            }
        }
    }

    private static void withinRates(Check t) {
        for (int kind = 0; kind < 16; kind++) {
            for (int place = 0; place < 3; place++) {
                int of = kind;
                int at = place;
                Twins.Maker maker = x -> {
                    x.chain();
                    for (int p = 0; p < 3; p++) {
                        x.put(0, p == at ? of : GAIN, FIXED, 2, WHOLE);
                    }
                    x.alone(MIX, FIXED, 0, WHOLE, WHOLE);
                };
                if (kind >= DOWN && kind <= HOLD) {
                    Twins.no(t, "with " + kind + " at " + place, maker, x -> x.within(3, 0));
                } else {
                    Bench x = new Bench();
                    maker.make(x);
                    t.yes("with " + kind + " at " + place, x.within(3, 0));
                }
            }
        }
        Bench y = alone(GAIN, FIXED, 0, WHOLE);
        y.alone(HOLD, FIXED, 3);
        y.put(1, MIX, FIXED, 0, 0, WHOLE);
        y.put(1, DOWN, FIXED, 2);
        t.yes("in a chain with such ones", y.within(2, 0));
        t.due("what came out", y.feed(1, 7), 2);
        outputs(t, "what is within", y, 0, 7, 7, 7);
    }

    private static void withinOther(Check t) {
        Twins.Maker maker = x -> {
            gainInMix(x);
            x.put(1, MIX, DOUBLE, 0, d(1), d(1));
            x.alone(MIX, DOUBLE, 0, d(1), d(1));
        };
        Twins.no(t, "in another of the same chain", maker, x -> x.within(2, 0));
        Twins.no(t, "in another of another chain", maker, x -> x.within(3, 0));
        Bench x = new Bench();
        maker.make(x);
        t.yes("the chain of both", x.within(3, 1));
    }

    private static void withinEmpty(Check t) {
        Twins.Maker maker = x -> {
            x.chain();
            x.alone(MIX, DOUBLE, 0, d(1), d(1));
            x.section(GAIN, DOUBLE, 0);
        };
        Twins.no(t, "no section", maker, x -> x.within(0, 0));
        Bench x = new Bench();
        maker.make(x);
        x.add(0, 1);
        t.yes("one section", x.within(0, 0));
        Bench y = new Bench();
        tens(y, 10);
        y.put(1, MIX, DOUBLE, 0, d(0), d(1));
        t.yes("ten sections", y.within(11, 0));
        t.due("what ten make", y.of(1, d(1)), d(3628800));
    }

    private static void withinFed(Check t) {
        Twins.none(t, "feed", ChainEdgesTest::gainInMix, x -> x.feed(0, d(1)));
        Twins.none(t, "run", ChainEdgesTest::gainInMix, x -> x.run(0, 1, 1));
        Twins.none(t, "convert", ChainEdgesTest::gainInMix, x -> x.convert(0, FLOAT));
        Bench x = new Bench();
        gainAndMix(x, DOUBLE);
        t.due("ahead of that", x.feed(0, d(1)), 1);
        x.within(1, 0);
        t.due("the outer one", x.feed(1, d(2)), 1);
        outputs(t, "all that came", x, 0, d(1), d(2));
    }

    private static void withinDeeper(Check t) {
        Bench x = alone(GAIN, FIXED, 0, WHOLE);
        x.alone(MIX, FIXED, 0, WHOLE, WHOLE);
        x.alone(MIX, FIXED, 0, WHOLE, WHOLE);
        t.yes("the outer one first", x.within(2, 1));
        t.due("a MIX without a chain", x.of(2, 1), 2);
        t.yes("then what is deeper", x.within(1, 0));
        t.due("run with it", x.of(2, 1), 3);
        outputs(t, "the deepest", x, 0, 1);
        outputs(t, "the middle", x, 1, 1, 2);
    }

    private static void withinTwenty(Check t) {
        Bench x = alone(GAIN, FIXED, 0, WHOLE);
        for (int i = 1; i < 20; i++) {
            x.alone(MIX, FIXED, 0, WHOLE, WHOLE);
            t.yes("chain " + i, x.within(i, i - 1));
        }
        t.due("run", x.run(19, 100, 1), 100);
        t.due("fed", x.feed(19, 3), 1);
        for (int i = 0; i < 20; i++) {
            t.due("made by " + i, x.last(i), 3 * (i + 1));
            t.due("how many of " + i, x.chain(i, 2), 101);
        }
    }

    private static void wholeWay(Check t) {
        Bench x = alone(UP, FIXED, 2);
        x.put(0, POLE, FIXED, 0, WHOLE, WHOLE);
        x.put(0, HOLD, FIXED, 3);
        x.put(0, POLE, FIXED, 0, WHOLE, WHOLE);
        x.feedAll(0, 1, 10);
        outputs(t, "UP, HOLD", x, 0, 1, 2, 3, 4, 5, 6, 17, 28, 39, 50, 61, 72);
        Bench y = alone(HOLD, FIXED, 2);
        y.put(0, POLE, FIXED, 0, WHOLE, WHOLE);
        y.put(0, UP, FIXED, 2);
        y.put(0, POLE, FIXED, 0, WHOLE, WHOLE);
        y.loop(0, 3, 3, 1, WHOLE);
        y.feed(0, 1);
        outputs(t, "HOLD, UP, a loop", y, 0, 1, 2, 6, 12);
        Bench z = alone(HOLD, FIXED, 3);
        z.put(0, DOWN, FIXED, 2);
        z.put(0, HOLD, FIXED, 2);
        t.due("HOLD, DOWN, HOLD", z.feed(0, 1), 4);
        t.due("HOLD, DOWN, HOLD", z.feed(0, 2), 2);
        outputs(t, "HOLD, DOWN, HOLD", z, 0, 1, 1, 1, 1, 2, 2);
    }

    private static void oneBehindTheOther(Check t) {
        Bench x = new Bench();
        x.chain();
        for (int i = 0; i < 10; i++) {
            x.put(0, DELAY, FIXED, 1);
        }
        for (int i = 0; i < 13; i++) {
            t.due("ten DELAYs at " + i, x.of(0, i + 1), i < 10 ? 0 : i - 9);
        }
        Bench y = alone(GAIN, DOUBLE, 0, d(3));
        y.put(0, CLIP, DOUBLE, 0, d(5));
        t.due("GAIN, CLIP", y.of(0, d(2)), d(5));
        Bench z = alone(CLIP, DOUBLE, 0, d(5));
        z.put(0, GAIN, DOUBLE, 0, d(3));
        t.due("CLIP, GAIN", z.of(0, d(2)), d(6));
    }

    // ---- promise 26 ----

    private static void chainOthers(Check t) {
        int[] whats = {-1, 5, 6, LEAST, GREATEST};
        for (int what : whats) {
            Twins.none(t, "what " + what, ChainEdgesTest::gainInMix, x -> x.chain(0, what));
        }
        int[] none = {-1, 2, 19, 20, LEAST, GREATEST};
        for (int c : none) {
            for (int what = -1; what < 6; what++) {
                int which = what;
                Twins.none(t, "chain " + c + ", what " + what, ChainEdgesTest::gainInMix, x -> x.chain(c, which));
            }
        }
    }

    private static void chainCounts(Check t) {
        Bench x = new Bench();
        x.chain();
        for (int i = 0; i < 10; i++) {
            t.due("sections", x.chain(0, 0), i);
            x.put(0, GAIN, FIXED, 0);
        }
        x.put(0, GAIN, FIXED, 0);
        t.due("ten sections, and no more", x.chain(0, 0), 10);
        for (int i = 0; i < 3; i++) {
            t.due("loops", x.chain(0, 1), i);
            x.loop(0, 0, 9, 1, 0);
        }
        x.loop(0, 0, 9, 1, 0);
        t.due("three loops, and no more", x.chain(0, 1), 3);
    }

    private static void chainOutput(Check t) {
        Bench x = alone(HOLD, FIXED, 8);
        x.put(0, HOLD, FIXED, 8);
        t.due("none", x.chain(0, 2), 0);
        x.feed(0, 1);
        t.due("64", x.chain(0, 2), 64);
        x.run(0, 5, 1);
        t.due("384", x.chain(0, 2), 384);
        x.run(0, 1, 1);
        t.due("more than are kept", x.chain(0, 2), 448);
        x.run(0, 100, 1);
        t.due("many more", x.chain(0, 2), 6848);
        x.feed(0, 40000);
        t.due("none by a refused one", x.chain(0, 2), 6848);
        x.reset(0);
        t.due("none behind a reset", x.chain(0, 2), 0);
    }

    private static void chainMix(Check t) {
        Bench x = new Bench();
        gainAndMix(x, FIXED);
        t.due("in none", x.chain(0, 3), NONE);
        x.within(1, 0);
        t.due("in the MIX", x.chain(0, 3), 1);
        t.due("the outer one in none", x.chain(1, 3), NONE);
        x.reset(1);
        t.due("still", x.chain(0, 3), 1);
    }

    private static void chainSort(Check t) {
        for (int sort = 0; sort < 3; sort++) {
            Bench x = new Bench();
            x.chain();
            t.due("without sections", x.chain(0, 4), NONE);
            x.put(0, GAIN, sort, 0);
            t.due("sort " + sort, x.chain(0, 4), sort);
        }
    }
}
