/**
 * A FilterBench that counts its calls: the document leaves free what an object answers beyond 512 of
 * them, so no test may ask for more.
 */
final class Bench {
    static final int MOST_CALLS = 512;

    private final FilterBench bench = new FilterBench();
    private int calls = 0;

    /** The object, for one call more. */
    private FilterBench one() {
        calls++;
        if (calls > MOST_CALLS) {
            throw new IllegalStateException("a test calls an object more than " + MOST_CALLS + " times");
        }
        return bench;
    }

    int calls() {
        return calls;
    }

    // ---- the face ----

    int section(int kind, int sort, int length) {
        return one().section(kind, sort, length);
    }

    boolean coefficient(int s, int k, long bits) {
        return one().coefficient(s, k, bits);
    }

    boolean ratio(int s, int k, int num, int den) {
        return one().ratio(s, k, num, den);
    }

    boolean rule(int s, int rounding, int limit) {
        return one().rule(s, rounding, limit);
    }

    int chain() {
        return one().chain();
    }

    int add(int c, int s) {
        return one().add(c, s);
    }

    int loop(int c, int a, int b, int n, long bits) {
        return one().loop(c, a, b, n, bits);
    }

    boolean within(int s, int c) {
        return one().within(s, c);
    }

    int feed(int c, long bits) {
        return one().feed(c, bits);
    }

    int run(int c, int n, int seed) {
        return one().run(c, n, seed);
    }

    long output(int c, int i) {
        return one().output(c, i);
    }

    long state(int s, int k) {
        return one().state(s, k);
    }

    int about(int s, int what) {
        return one().about(s, what);
    }

    long told(int s, int k) {
        return one().told(s, k);
    }

    boolean reset(int c) {
        return one().reset(c);
    }

    int keep(int c) {
        return one().keep(c);
    }

    boolean back(int k) {
        return one().back(k);
    }

    boolean same(int k) {
        return one().same(k);
    }

    int poles(int s) {
        return one().poles(s);
    }

    int cycles(int s) {
        return one().cycles(s);
    }

    int cycle(int s, int k, int what) {
        return one().cycle(s, k, what);
    }

    int convert(int c, int sort) {
        return one().convert(c, sort);
    }

    long measure(int c, int what) {
        return one().measure(c, what);
    }

    int count(int what) {
        return one().count(what);
    }

    int chain(int c, int what) {
        return one().chain(c, what);
    }

    // ---- several calls at once ----

    /** A section more with these coefficients; its number. */
    int made(int kind, int sort, int length, long... factors) {
        int s = section(kind, sort, length);
        for (int k = 0; k < factors.length; k++) {
            coefficient(s, k, factors[k]);
        }
        return s;
    }

    /** A section more with these coefficients, behind those of a chain; its number. */
    int put(int c, int kind, int sort, int length, long... factors) {
        int s = made(kind, sort, length, factors);
        add(c, s);
        return s;
    }

    /** A chain more, with one section of these coefficients; its number. */
    int alone(int kind, int sort, int length, long... factors) {
        int c = chain();
        put(c, kind, sort, length, factors);
        return c;
    }

    /** So many sections more of a kind. */
    void sections(int many, int kind, int sort) {
        for (int i = 0; i < many; i++) {
            section(kind, sort, 2);
        }
    }

    void chains(int many) {
        for (int i = 0; i < many; i++) {
            chain();
        }
    }

    void feedAll(int c, long... bits) {
        for (long b : bits) {
            feed(c, b);
        }
    }

    /** What the chain made last. */
    long last(int c) {
        return output(c, chain(c, 2) - 1);
    }

    /** What the chain makes of a sample that makes one. */
    long of(int c, long bits) {
        feed(c, bits);
        return last(c);
    }
}
