/** The boundary cases of promises 16 to 19. */
public final class KeptEdgesTest extends Edges {
    private static final int[] WITH_STATES = {POLE, DIRECT, SECOND, TURNED, PASS, DELAY, MEAN, COMB, PEAK, DOWN};

    public static void main(String[] args) {
        test("16 reset: false without such a chain", KeptEdgesTest::resetNone);
        test("16 reset: all states are 0 again", KeptEdgesTest::resetStates);
        test("16 reset: the rests are 0 again", KeptEdgesTest::resetRests);
        test("16 reset: the loops' samples are 0 again", KeptEdgesTest::resetLoops);
        test("16 reset: the outputs are empty", KeptEdgesTest::resetOutputs);
        test("16 reset: overs, touches stay, and all that is no state", KeptEdgesTest::resetStays);
        test("16 reset: of the chains within it, no others", KeptEdgesTest::resetWithin);
        test("16 reset: of a chain without sections", KeptEdgesTest::resetEmpty);
        test("17 keep: the number, from 0 on, 8 at most", KeptEdgesTest::keepEight);
        test("17 keep: NONE without such a chain", KeptEdgesTest::keepNone);
        test("17 keep: of a chain without sections", KeptEdgesTest::keepEmpty);
        test("17 keep: what is kept stays as it is", KeptEdgesTest::keepStays);
        test("18 back: there is none such", KeptEdgesTest::backNone);
        test("18 back: other sections", KeptEdgesTest::backSections);
        test("18 back: other loops", KeptEdgesTest::backLoops);
        test("18 back: other chains within it", KeptEdgesTest::backWithin);
        test("18 back: the chain is within a MIX now", KeptEdgesTest::backInMix);
        test("18 back: states of every kind", KeptEdgesTest::backStates);
        test("18 back: the rest", KeptEdgesTest::backRest);
        test("18 back: the loops' samples", KeptEdgesTest::backLoopSamples);
        test("18 back: the chains within it, no others", KeptEdgesTest::backTree);
        test("18 back: output, overs, touches stay", KeptEdgesTest::backStays);
        test("18 back: again and again, behind a reset too", KeptEdgesTest::backAgain);
        test("18 back: rule and coefficients are no states", KeptEdgesTest::backRules);
        test("19 same: there is none such", KeptEdgesTest::sameNone);
        test("19 same: other sections, loops, chains within it", KeptEdgesTest::sameOther);
        test("19 same: states of every kind", KeptEdgesTest::sameStates);
        test("19 same: the bits that were kept", KeptEdgesTest::sameBits);
        test("19 same: the rest", KeptEdgesTest::sameRest);
        test("19 same: the loops' samples", KeptEdgesTest::sameLoopSamples);
        test("19 same: of the chains within it, no others", KeptEdgesTest::sameTree);
        test("19 same: output, overs, touches are not looked at", KeptEdgesTest::sameStays);
        Check.end();
    }

    /** A chain with a state, a rest and a loop, that got some samples; chain 1 is empty. */
    private static void one(Bench x) {
        x.alone(POLE, FIXED, 0, WHOLE, 12345);
        x.rule(0, 2, 1);
        x.loop(0, 0, 0, 2, 5555);
        x.chain();
        x.feedAll(0, 1000, -77, 3);
    }

    /** As above, and what it holds is kept, ahead of two samples more. */
    private static void kept(Bench x) {
        one(x);
        x.keep(0);
        x.feedAll(0, 500, 600);
    }

    /** Chain 0, a DELAY, is within chain 1, which is within chain 2; chain 3 holds a DELAY of its own. */
    private static void tree(Bench x) {
        x.alone(DELAY, FIXED, 2);
        x.alone(MIX, FIXED, 0, WHOLE, WHOLE);
        x.alone(MIX, FIXED, 0, WHOLE, WHOLE);
        x.put(1, POLE, FIXED, 0, WHOLE, WHOLE);
        x.put(2, DELAY, FIXED, 1);
        x.within(1, 0);
        x.within(2, 1);
        x.alone(DELAY, FIXED, 2);
        x.feedAll(2, 5, 6);
        x.feedAll(3, 8, 9);
    }

    // ---- promise 16 ----

    private static void resetNone(Check t) {
        int[] none = {-1, 2, 19, 20, LEAST, GREATEST};
        for (int c : none) {
            Twins.no(t, "chain " + c, KeptEdgesTest::one, x -> x.reset(c));
        }
        Bench x = new Bench();
        one(x);
        t.yes("the one that there is", x.reset(0));
        Bench y = new Bench();
        y.chains(20);
        t.yes("the 20th of 20", y.reset(19));
        t.no("the 21st of 20", y.reset(20));
    }

    /** A chain with one section of a kind that has states; its coefficients are 1, 1/2 and so on. */
    private static Bench calm(int kind, int sort) {
        long[] factors = new long[5];
        for (int k = 0; k < 5; k++) {
            double c = 1.0 / (1 << k);
            factors[k] = sort == DOUBLE ? d(c) : sort == FLOAT ? f(c) : (long) (c * WHOLE);
        }
        return alone(kind, sort, 3, factors);
    }

    /** One whose states are no longer 0. */
    private static Bench stirred(int kind, int sort) {
        Bench x = calm(kind, sort);
        x.feedAll(0, sample(sort, 5), sample(sort, 7));
        return x;
    }

    private static boolean still(Bench x) {
        for (int k = 0; k < 5; k++) {
            if (x.state(0, k) != 0) {
                return false;
            }
        }
        return true;
    }

    private static void resetStates(Check t) {
        for (int kind : WITH_STATES) {
            for (int sort = 0; sort < 3; sort++) {
                Bench x = stirred(kind, sort);
                t.no("kind " + kind + " ahead of it", still(x));
                t.yes("reset", x.reset(0));
                t.yes("kind " + kind + " behind it", still(x));
                Bench y = calm(kind, sort);
                x.run(0, 9, 5);
                y.run(0, 9, 5);
                for (int i = 0; i < 9; i++) {
                    t.due("kind " + kind + " as a new one, " + i, x.output(0, i), y.output(0, i));
                }
            }
        }
        Bench z = alone(POLE, DOUBLE, 0, d(-1), d(1));
        z.feed(0, d(0));
        t.due("-0.0", z.state(0, 0), 0);
        z.coefficient(0, 1, d(-1));
        z.feed(0, d(0));
        t.due("-0.0", z.state(0, 0), d(-0.0));
        z.reset(0);
        t.due("0.0", z.state(0, 0), 0);
    }

    private static void resetRests(Check t) {
        Bench x = fixed(GAIN, 2, 0, 8192);
        x.feed(0, 1);
        t.due("ahead of it", x.state(0, 100), 8192);
        x.reset(0);
        t.due("behind it", x.state(0, 100), 0);
        makes(t, "behind it", x, raw(1, 1), raw(0, 1));
        x.put(0, GAIN, FIXED, 0, 8192);
        x.rule(1, 2, 0);
        x.feedAll(0, 1, 1);
        t.due("of the second section", x.state(1, 100), 8192);
        x.reset(0);
        t.due("of the second section, behind it", x.state(1, 100), 0);
    }

    private static void resetLoops(Check t) {
        Bench x = alone(GAIN, FIXED, 0, WHOLE);
        for (int n = 1; n <= 3; n++) {
            x.loop(0, 0, 0, n, WHOLE);
        }
        x.feedAll(0, 1, 2, 3, 4);
        x.reset(0);
        t.due("the loops stay", x.chain(0, 1), 3);
        makes(t, "behind it", x, raw(0, 0, 0, 1, 0, 0, 0), raw(0, 0, 0, 1, 1, 2, 4));
    }

    private static void resetOutputs(Check t) {
        Bench x = alone(GAIN, FIXED, 0, WHOLE);
        x.feedAll(0, 5, -6);
        x.reset(0);
        t.due("how many", x.chain(0, 2), 0);
        t.due("output 0", x.output(0, 0), 0);
        t.due("output 1", x.output(0, 1), 0);
        t.due("the greatest size", x.measure(0, 0), 0);
        x.feed(0, 7);
        t.due("how many, then", x.chain(0, 2), 1);
        t.due("output 0, then", x.output(0, 0), 7);
    }

    private static void resetStays(Check t) {
        Bench x = alone(GAIN, FIXED, 0, 32767);
        x.put(0, CLIP, FIXED, 0, 100);
        x.put(0, DEAD, FIXED, 0, 100);
        x.rule(0, 1, 0);
        x.loop(0, 0, 1, 5, 7);
        x.feedAll(0, 32767, -32768, 0);
        x.reset(0);
        t.due("overs", x.about(0, 5), 2);
        t.due("touches of CLIP", x.about(1, 6), 2);
        t.due("touches of DEAD", x.about(2, 6), 3);
        t.due("a coefficient", x.told(0, 0), 32767);
        t.due("rounding", x.about(0, 8), 1);
        t.due("sections", x.chain(0, 0), 3);
        t.due("loops", x.chain(0, 1), 1);
        t.due("place", x.about(2, 4), 2);
        t.due("sort", x.chain(0, 4), FIXED);
    }

    private static void resetWithin(Check t) {
        Bench x = new Bench();
        tree(x);
        t.yes("of the outermost", x.reset(2));
        t.due("the deepest", x.state(0, 1), 0);
        t.due("the deepest one's output", x.chain(0, 2), 0);
        t.due("the middle", x.state(3, 0), 0);
        t.due("the middle one's output", x.chain(1, 2), 0);
        t.due("itself", x.state(4, 0), 0);
        t.due("its output", x.chain(2, 2), 0);
        t.due("no other chain", x.state(5, 1), 9);
        t.due("no other chain's output", x.chain(3, 2), 2);
        t.due("still within", x.chain(0, 3), 1);
        x.feedAll(2, 5, 6);
        t.yes("then of the deepest alone", x.reset(0));
        t.due("itself", x.state(0, 1), 0);
        t.due("the middle stays", x.state(3, 0), 11);
        t.due("the outermost one's output stays", x.chain(2, 2), 2);
        Bench y = new Bench();
        tree(y);
        t.yes("of the middle", y.reset(1));
        t.due("the deepest", y.state(0, 1), 0);
        t.due("the deepest one's output", y.chain(0, 2), 0);
        t.due("itself", y.state(3, 0), 0);
        t.due("its output", y.chain(1, 2), 0);
        t.due("not what it is within", y.state(4, 0) != 0 ? 1 : 0, 1);
        t.due("not the output of that", y.chain(2, 2), 2);
        Bench z = new Bench();
        tree(z);
        t.yes("of the deepest", z.reset(0));
        t.due("itself", z.state(0, 1), 0);
        t.due("not what it is within", z.state(3, 0) != 0 ? 1 : 0, 1);
        t.due("not the output of that", z.chain(1, 2), 2);
    }

    private static void resetEmpty(Check t) {
        Bench x = new Bench();
        one(x);
        t.yes("no section", x.reset(1));
        t.due("the other chain stays", x.chain(0, 2), 3);
        t.due("still none", x.chain(1, 0), 0);
        t.yes("twice", x.reset(0) && x.reset(0));
    }

    // ---- promise 17 ----

    private static void keepEight(Check t) {
        Bench x = new Bench();
        one(x);
        for (int i = 0; i < 8; i++) {
            t.due("kept", x.count(2), i);
            t.due("keep " + i, x.keep(i % 2), i);
        }
        t.due("a ninth", x.keep(0), NONE);
        t.due("kept", x.count(2), 8);
        Twins.Maker eight = y -> {
            one(y);
            for (int i = 0; i < 8; i++) {
                y.keep(0);
                y.feed(0, 100 * i);
            }
        };
        Twins.none(t, "a ninth", eight, y -> y.keep(0));
        Twins.none(t, "a ninth, of another chain", eight, y -> y.keep(1));
    }

    private static void keepNone(Check t) {
        int[] none = {-1, 2, 19, 20, LEAST, GREATEST};
        for (int c : none) {
            Twins.none(t, "chain " + c, KeptEdgesTest::kept, x -> x.keep(c));
        }
        Bench x = new Bench();
        x.chains(20);
        t.due("the 20th of 20", x.keep(19), 0);
        t.due("the 21st of 20", x.keep(20), NONE);
    }

    private static void keepEmpty(Check t) {
        Bench x = new Bench();
        x.chain();
        t.due("no section", x.keep(0), 0);
        t.yes("same", x.same(0));
        t.yes("back", x.back(0));
        x.put(0, GAIN, FIXED, 0);
        t.no("one section more", x.same(0));
        t.no("one section more", x.back(0));
    }

    private static void keepStays(Check t) {
        Bench x = alone(POLE, DOUBLE, 0, d(1), d(1));
        for (int i = 0; i < 8; i++) {
            x.keep(0);
            x.feed(0, d(1));
        }
        for (int i = 7; i >= 0; i--) {
            t.yes("back " + i, x.back(i));
            t.due("state " + i, x.state(0, 0), d(i));
            for (int k = 0; k < 8; k++) {
                t.due("same " + k + " as " + i, x.same(k) ? 1 : 0, k == i ? 1 : 0);
            }
        }
    }

    // ---- promise 18 ----

    private static void backNone(Check t) {
        int[] none = {-1, 1, 2, 7, 8, LEAST, GREATEST};
        for (int k : none) {
            Twins.no(t, "kept " + k, KeptEdgesTest::kept, x -> x.back(k));
        }
        Twins.no(t, "none kept", KeptEdgesTest::one, x -> x.back(0));
        Bench x = new Bench();
        kept(x);
        t.yes("the one that there is", x.back(0));
        Bench y = new Bench();
        one(y);
        for (int i = 0; i < 8; i++) {
            y.keep(0);
        }
        t.yes("the eighth", y.back(7));
        t.no("a ninth", y.back(8));
    }

    private static void backSections(Check t) {
        Twins.no(t, "one more", x -> {
            kept(x);
            x.put(0, GAIN, FIXED, 0, WHOLE);
        }, x -> x.back(0));
        Twins.no(t, "one more, of no states", x -> {
            x.alone(DELAY, DOUBLE, 2);
            x.keep(0);
            x.feed(0, d(4));
            x.put(0, UP, DOUBLE, 2);
        }, x -> x.back(0));
        Bench x = new Bench();
        kept(x);
        x.put(1, GAIN, FIXED, 0, WHOLE);
        x.section(GAIN, FIXED, 0);
        t.yes("of another chain", x.back(0));
        x.put(0, GAIN, FIXED, 0, WHOLE);
        t.due("kept as it is now", x.keep(0), 1);
        t.no("as it was", x.back(0));
        t.yes("as it is now", x.back(1));
    }

    private static void backLoops(Check t) {
        Twins.no(t, "one more", x -> {
            kept(x);
            x.loop(0, 0, 0, 1, 0);
        }, x -> x.back(0));
        Twins.no(t, "the first", x -> {
            x.alone(DELAY, DOUBLE, 2);
            x.keep(0);
            x.feed(0, d(4));
            x.loop(0, 0, 0, 64, d(1));
        }, x -> x.back(0));
        Bench x = new Bench();
        kept(x);
        x.put(1, GAIN, FIXED, 0, WHOLE);
        x.loop(1, 0, 0, 1, 0);
        t.yes("of another chain", x.back(0));
        x.loop(0, 0, 0, 1, 0);
        t.due("kept as it is now", x.keep(0), 1);
        t.no("as it was", x.back(0));
        t.yes("as it is now", x.back(1));
    }

    /** Chains 0 and 1, and chain 2 with two MIXes; its states are kept. */
    private static void twoMixes(Bench x) {
        x.alone(DELAY, FIXED, 2);
        x.alone(MIX, FIXED, 0, WHOLE, WHOLE);
        x.alone(MIX, FIXED, 0, WHOLE, WHOLE);
        x.put(2, MIX, FIXED, 0, WHOLE, WHOLE);
        x.put(2, DELAY, FIXED, 2);
        x.feed(2, 5);
    }

    private static void backWithin(Check t) {
        Twins.no(t, "one more", x -> {
            twoMixes(x);
            x.keep(2);
            x.feed(2, 7);
            x.within(2, 0);
        }, x -> x.back(0));
        Twins.no(t, "a second", x -> {
            twoMixes(x);
            x.within(2, 0);
            x.keep(2);
            x.feed(2, 7);
            x.within(3, 1);
        }, x -> x.back(0));
        Twins.no(t, "one more, deeper", x -> {
            twoMixes(x);
            x.within(2, 1);
            x.keep(2);
            x.feed(2, 7);
            x.within(1, 0);
        }, x -> x.back(0));
        Bench x = new Bench();
        twoMixes(x);
        x.within(2, 1);
        x.keep(0);
        x.keep(2);
        x.within(1, 0);
        x.keep(2);
        t.yes("of the chain within, which is as it was", x.back(0));
        t.no("as it was", x.back(1));
        t.yes("as it is now", x.back(2));
    }

    private static void backInMix(Check t) {
        Bench x = alone(DELAY, FIXED, 1);
        x.feed(0, 5);
        x.keep(0);
        x.feed(0, 6);
        x.alone(MIX, FIXED, 0, WHOLE, WHOLE);
        x.within(1, 0);
        t.yes("its own sections, loops, chains are as they were", x.back(0));
        t.due("state", x.state(0, 0), 5);
        t.yes("same", x.same(0));
    }

    private static void backStates(Check t) {
        for (int kind : WITH_STATES) {
            for (int sort = 0; sort < 3; sort++) {
                Bench x = stirred(kind, sort);
                long[] due = new long[5];
                for (int k = 0; k < 5; k++) {
                    due[k] = x.state(0, k);
                }
                x.keep(0);
                x.feedAll(0, sample(sort, 11), sample(sort, 13));
                t.yes("back", x.back(0));
                states(t, "kind " + kind + " of sort " + sort, x, 0, due);
                int came = x.run(0, 9, 5);
                Bench y = stirred(kind, sort);
                t.due("kind " + kind + " goes on", came, y.run(0, 9, 5));
                for (int i = 1; i <= came; i++) {
                    t.due("kind " + kind + " goes on", x.output(0, x.chain(0, 2) - i), y.output(0, y.chain(0, 2) - i));
                }
            }
        }
    }

    private static void backRest(Check t) {
        Bench x = fixed(GAIN, 2, 0, 4096);
        x.feed(0, 1);
        x.keep(0);
        x.feed(0, 2);
        t.due("ahead of it", x.state(0, 100), 12288);
        x.back(0);
        t.due("behind it", x.state(0, 100), 4096);
        makes(t, "behind it", x, raw(2, 1), raw(0, 1));
        Bench y = new Bench();
        threeRests(y);
        y.keep(0);
        y.feedAll(0, 1, 1, 1);
        y.back(0);
        for (int s = 0; s < 3; s++) {
            t.due("of section " + s, y.state(s, 100), 4096 * (s + 1));
        }
    }

    /** Three sections in a chain, each with a rest of its own. */
    private static void threeRests(Bench x) {
        x.chain();
        for (int s = 0; s < 3; s++) {
            x.put(0, GAIN, FIXED, 0, 4096 * (s + 1));
            x.rule(s, 2, 0);
            x.feed(0, 0);
        }
        for (int s = 0; s < 3; s++) {
            x.coefficient(s, 0, WHOLE + 4096 * (s + 1));
        }
        x.feed(0, 1);
    }

    private static void backLoopSamples(Check t) {
        int[] lengths = {1, 2, 64};
        for (int n : lengths) {
            Bench x = alone(GAIN, FIXED, 0, WHOLE);
            x.loop(0, 0, 0, n, WHOLE);
            x.feed(0, 9);
            x.keep(0);
            for (int i = 0; i < n + 3; i++) {
                x.feed(0, 100);
            }
            x.back(0);
            for (int i = 1; i <= n; i++) {
                t.due("n " + n + " at " + i, x.of(0, 0), i == n ? 9 : 0);
            }
        }
    }

    private static void backTree(Check t) {
        Bench x = new Bench();
        tree(x);
        t.due("keep", x.keep(2), 0);
        x.feedAll(2, 50, 60, 70);
        x.feedAll(3, 80, 90);
        t.yes("back", x.back(0));
        states(t, "the deepest", x, 0, 5, 6);
        states(t, "the middle", x, 3, 11);
        t.due("itself", x.state(4, 0) != 0 ? 1 : 0, 1);
        states(t, "no other", x, 5, 80, 90);
        Bench y = new Bench();
        tree(y);
        for (Bench z : new Bench[] {x, y}) {
            z.run(2, 5, 3);
        }
        for (int i = 1; i <= 5; i++) {
            t.due("goes on " + i, x.output(2, x.chain(2, 2) - i), y.output(2, y.chain(2, 2) - i));
        }
        Bench w = new Bench();
        tree(w);
        t.due("keep the deepest", w.keep(0), 0);
        w.feedAll(2, 50, 60);
        long middle = w.state(3, 0);
        t.yes("back", w.back(0));
        states(t, "the deepest", w, 0, 5, 6);
        t.due("the middle stays", w.state(3, 0), middle);
    }

    private static void backStays(Check t) {
        Bench x = alone(GAIN, FIXED, 0, 32767);
        x.put(0, CLIP, FIXED, 0, 100);
        x.put(0, DEAD, FIXED, 0, 50);
        x.feedAll(0, 32767, 0);
        x.keep(0);
        x.feedAll(0, 32767, 0, -32768);
        t.yes("back", x.back(0));
        t.due("overs", x.about(0, 5), 3);
        t.due("touches of CLIP", x.about(1, 6), 3);
        t.due("touches of DEAD", x.about(2, 6), 2);
        outputs(t, "the output", x, 0, 100, 0, 100, 0, -100);
        x.feed(0, 32767);
        t.due("what comes then", x.output(0, 5), 100);
    }

    private static void backAgain(Check t) {
        Bench x = new Bench();
        kept(x);
        t.yes("back", x.back(0));
        long made = x.of(0, 7);
        for (int i = 0; i < 3; i++) {
            t.yes("again", x.back(0));
            t.yes("same", x.same(0));
            t.due("once more", x.of(0, 7), made);
            t.no("no longer the same", x.same(0));
        }
        x.reset(0);
        t.due("a reset", x.state(0, 0), 0);
        t.yes("behind a reset", x.back(0));
        t.due("the output stays empty", x.chain(0, 2), 0);
        t.due("once more", x.of(0, 7), made);
    }

    private static void backRules(Check t) {
        Bench x = new Bench();
        kept(x);
        x.rule(0, 1, 0);
        x.coefficient(0, 1, 99);
        t.yes("back", x.back(0));
        t.due("rounding", x.about(0, 8), 1);
        t.due("limit", x.about(0, 9), 0);
        t.due("coefficient", x.told(0, 1), 99);
        t.yes("same", x.same(0));
    }

    // ---- promise 19 ----

    private static void sameNone(Check t) {
        int[] none = {-1, 1, 2, 7, 8, LEAST, GREATEST};
        for (int k : none) {
            Twins.no(t, "kept " + k, KeptEdgesTest::kept, x -> x.same(k));
        }
        Twins.no(t, "none kept", KeptEdgesTest::one, x -> x.same(0));
        Twins.no(t, "other bits", KeptEdgesTest::kept, x -> x.same(0));
        Bench x = new Bench();
        one(x);
        x.keep(0);
        t.yes("the one that there is", x.same(0));
        t.yes("asked again", x.same(0));
    }

    private static void sameOther(Check t) {
        Bench x = new Bench();
        one(x);
        x.keep(0);
        x.put(1, GAIN, FIXED, 0, WHOLE);
        t.yes("of another chain", x.same(0));
        x.put(0, GAIN, FIXED, 0, WHOLE);
        t.no("a section more", x.same(0));
        x.keep(0);
        t.yes("as it is now", x.same(1));
        x.loop(0, 0, 0, 1, 0);
        t.no("a loop more", x.same(1));
        Bench y = new Bench();
        twoMixes(y);
        y.keep(2);
        y.within(2, 1);
        t.no("a chain within it", y.same(0));
        y.keep(2);
        t.yes("as it is now", y.same(1));
        y.within(1, 0);
        t.no("a chain deeper within it", y.same(1));
        y.keep(2);
        t.yes("as it is now", y.same(2));
    }

    private static void sameStates(Check t) {
        for (int kind : WITH_STATES) {
            for (int sort = 0; sort < 3; sort++) {
                Bench x = stirred(kind, sort);
                x.keep(0);
                t.yes("kind " + kind + " at once", x.same(0));
                x.feed(0, sample(sort, 20));
                t.no("kind " + kind + " behind a sample", x.same(0));
                x.back(0);
                t.yes("kind " + kind + " behind back", x.same(0));
            }
        }
        int[] lengths = {1, 2, 64};
        for (int n : lengths) {
            Bench x = alone(DELAY, FIXED, n);
            x.keep(0);
            x.feed(0, 1);
            for (int i = 1; i <= n; i++) {
                t.no("the " + i + "th of DELAY " + n, x.same(0));
                x.feed(0, 0);
            }
            t.yes("gone by in DELAY " + n, x.same(0));
        }
    }

    private static void sameBits(Check t) {
        Bench x = alone(DELAY, DOUBLE, 1);
        x.keep(0);
        x.feed(0, d(-0.0));
        t.no("a 0 with a sign", x.same(0));
        x.feed(0, d(0));
        t.yes("a 0 without one", x.same(0));
        x.feed(0, 1);
        t.no("the least", x.same(0));
        x.feed(0, NAN);
        x.keep(0);
        x.feed(0, -1);
        t.yes("one not-a-number is as another", x.same(1));
        Bench y = alone(DELAY, FLOAT, 1);
        y.keep(0);
        y.feed(0, f(-0.0));
        t.no("a 0 with a sign of FLOAT", y.same(0));
        y.feed(0, 0);
        t.yes("a 0 without one of FLOAT", y.same(0));
    }

    private static void sameRest(Check t) {
        Bench x = fixed(GAIN, 2, 0, 8192);
        x.keep(0);
        x.feed(0, 1);
        t.no("another rest", x.same(0));
        x.feed(0, 1);
        t.yes("used up", x.same(0));
        for (int s = 0; s < 3; s++) {
            Bench y = new Bench();
            threeRests(y);
            y.keep(0);
            t.yes("three rests", y.same(0));
            for (int other = 0; other < 3; other++) {
                y.coefficient(other, 0, other == s ? 1 : WHOLE);
            }
            y.feed(0, 1);
            t.no("another rest of section " + s, y.same(0));
        }
    }

    private static void sameLoopSamples(Check t) {
        int[] lengths = {1, 2, 64};
        for (int n : lengths) {
            Bench x = alone(GAIN, FIXED, 0, WHOLE);
            x.loop(0, 0, 0, 1, 0);
            x.loop(0, 0, 0, n, 0);
            x.keep(0);
            x.feed(0, 1);
            for (int i = 1; i <= n; i++) {
                t.no("the " + i + "th of " + n, x.same(0));
                x.feed(0, 0);
            }
            t.yes("gone by in " + n, x.same(0));
            Bench y = alone(GAIN, FIXED, 0, WHOLE);
            y.loop(0, 0, 0, n, 0);
            y.loop(0, 0, 0, 1, 0);
            y.keep(0);
            y.feed(0, 1);
            for (int i = 1; i <= n; i++) {
                t.no("the longer one first, the " + i + "th of " + n, y.same(0));
                y.feed(0, 0);
            }
            t.yes("the longer one first, gone by in " + n, y.same(0));
        }
        Bench z = alone(GAIN, FIXED, 0, WHOLE);
        z.loop(0, 0, 0, 2, 0);
        z.loop(0, 0, 0, 3, 0);
        z.loop(0, 0, 0, 1, 0);
        z.feedAll(0, 1, 2, 3);
        z.keep(0);
        t.yes("three loops", z.same(0));
        z.feed(0, 4);
        t.no("one sample more", z.same(0));
        z.feedAll(0, 1, 2, 3);
        t.yes("the same samples again", z.same(0));
    }

    private static void sameTree(Check t) {
        Bench x = new Bench();
        tree(x);
        x.keep(2);
        x.keep(3);
        x.keep(1);
        x.feed(3, 1);
        t.yes("another chain's states", x.same(0));
        t.no("its own", x.same(1));
        x.reset(0);
        t.no("the deepest one's", x.same(0));
        t.no("of the middle, the deepest one's", x.same(2));
        x.back(2);
        t.yes("as they were", x.same(0));
        x.feed(2, 9);
        x.back(2);
        t.yes("the middle as it was", x.same(2));
        t.no("the outermost not", x.same(0));
    }

    private static void sameStays(Check t) {
        Bench x = alone(CLIP, FIXED, 0, 5);
        x.put(0, GAIN, FIXED, 0, -32768);
        x.keep(0);
        x.feedAll(0, 32767, -32768);
        x.coefficient(0, 0, 32767);
        x.feed(0, 32767);
        t.yes("touches", x.about(0, 6) > 0);
        t.yes("overs", x.about(1, 5) > 0);
        t.yes("no states", x.same(0));
        x.reset(0);
        t.yes("no output", x.same(0));
    }
}
