import java.util.Arrays;

/** A workshop for digital filters: sections, chains of them, and what these make of samples. */
public final class FilterBench {

    public static final int NONE = -1;

    private static final int DOUBLE = 0;
    private static final int FLOAT = 1;
    private static final int FIXED = 2;

    private static final int GAIN = 0;
    private static final int POLE = 1;
    private static final int DIRECT = 2;
    private static final int SECOND = 3;
    private static final int TURNED = 4;
    private static final int PASS = 5;
    private static final int DELAY = 6;
    private static final int MEAN = 7;
    private static final int COMB = 8;
    private static final int CLIP = 9;
    private static final int DEAD = 10;
    private static final int PEAK = 11;
    private static final int DOWN = 12;
    private static final int UP = 13;
    private static final int HOLD = 14;
    private static final int MIX = 15;

    /** How many coefficients a section of each kind has. */
    private static final int[] FACTORS = {1, 2, 5, 5, 5, 1, 0, 1, 1, 1, 1, 1, 0, 0, 0, 2};
    /** How many states a section of each kind has; -1: as many as its length. */
    private static final int[] CELLS = {0, 1, 4, 2, 2, 1, -1, -1, -1, 0, 0, 1, 1, 0, 0, 0};
    /** The least and the greatest length of each kind; a greatest of 0: the length is not looked at. */
    private static final int[] SHORTEST = {0, 0, 0, 0, 0, 0, 1, 1, 1, 0, 0, 0, 2, 2, 2, 0};
    private static final int[] LONGEST = {0, 0, 0, 0, 0, 0, 64, 32, 64, 0, 0, 0, 8, 8, 8, 0};

    private static final int MOST_SECTIONS = 60;
    private static final int MOST_CHAINS = 20;
    private static final int MOST_MEMBERS = 10;
    private static final int MOST_SPREADERS = 2;
    private static final int MOST_LOOPS = 3;
    private static final int LONGEST_LOOP = 64;
    private static final int MOST_KEPT = 8;
    private static final int MOST_RUN = 100;
    private static final int OUTPUT_ROOM = 400;
    /** Twenty chains, one within the other, and two spreaders: no run goes deeper than this. */
    private static final int DEEPEST = 30;
    /** The number of the state that is the rest. */
    private static final int REST = 100;

    /** FIXED: one whole, as a power of two and as a number. */
    private static final int WHOLE_BITS = 14;
    private static final int WHOLE = 1 << WHOLE_BITS;
    private static final int LEAST_SHORT = -32768;
    private static final int GREATEST_SHORT = 32767;
    private static final int SHORTS = 65536;
    private static final long NO_SHORT = 1L << 40;

    /** The bits of doubles. */
    private static final long HALF_BITS = 0x3fe0000000000000L;
    private static final long ONE_BITS = 0x3ff0000000000000L;
    private static final long TWO_BITS = 0x4000000000000000L;

    private final Real doubles;
    private final Real floats;
    private final Shorts shorts;
    private final Section[] sections;
    private int sectionCount;
    private final Chain[] chains;
    private int chainCount;
    private final Kept[] kepts;
    private int keptCount;
    /** A chain and all those within it, as gathered last. */
    private final Chain[] tree;
    private final DeadCycles dead;

    public FilterBench() {
        doubles = new Real(52, 11);
        floats = new Real(23, 8);
        shorts = new Shorts();
        sections = new Section[MOST_SECTIONS];
        chains = new Chain[MOST_CHAINS];
        kepts = new Kept[MOST_KEPT];
        tree = new Chain[MOST_CHAINS];
        dead = new DeadCycles();
    }

    // ---- sections ----

    public int section(int kind, int sort, int length) {
        Numbers numbers = numbersOf(sort);
        if (numbers == null || !isKind(kind) || !fitsKind(kind, length)) {
            return NONE;
        }
        Section s = newSection(kind, sort, length, numbers);
        return s == null ? NONE : s.number;
    }

    public boolean coefficient(int s, int k, long bits) {
        Section section = sectionAt(s);
        if (section == null || !section.hasFactor(k) || !section.numbers.holds(bits)) {
            return false;
        }
        section.setFactor(k, section.numbers.clean(bits));
        return true;
    }

    public boolean ratio(int s, int k, int num, int den) {
        Section section = sectionAt(s);
        if (section == null || !section.hasFactor(k) || den == 0) {
            return false;
        }
        long bits = section.numbers.quotient(num, den, section.takesWhole(), doubles);
        if (!section.numbers.holds(bits)) {
            return false;
        }
        section.setFactor(k, bits);
        return true;
    }

    public boolean rule(int s, int rounding, int limit) {
        Section section = sectionAt(s);
        if (section == null || section.sort != FIXED) {
            return false;
        }
        if (rounding < 0 || rounding > 2 || limit < 0 || limit > 1) {
            return false;
        }
        section.rounding = rounding;
        section.limit = limit;
        return true;
    }

    public long state(int s, int k) {
        Section section = sectionAt(s);
        if (section == null) {
            return 0;
        }
        return k == REST ? section.rest.at(0) : section.states.at(k);
    }

    public int about(int s, int what) {
        Section section = sectionAt(s);
        if (section == null) {
            return NONE;
        }
        switch (what) {
            case 0: return section.kind;
            case 1: return section.sort;
            case 2: return section.length;
            case 3: return numberOf(section.home);
            case 4: return section.place;
            case 5: return section.overs;
            case 6: return section.touches;
            case 7: return numberOf(section.inner);
            case 8: return section.rounding;
            case 9: return section.limit;
            default: return NONE;
        }
    }

    public long told(int s, int k) {
        Section section = sectionAt(s);
        return section == null ? 0 : section.factor(k);
    }

    private static boolean isKind(int kind) {
        return kind >= 0 && kind < FACTORS.length;
    }

    private static boolean fitsKind(int kind, int length) {
        if (kind < 0 || kind >= LONGEST.length || kind >= SHORTEST.length) {
            return false;
        }
        return LONGEST[kind] == 0 || length >= SHORTEST[kind] && length <= LONGEST[kind];
    }

    private Numbers numbersOf(int sort) {
        switch (sort) {
            case DOUBLE: return doubles;
            case FLOAT: return floats;
            case FIXED: return shorts;
            default: return null;
        }
    }

    private Section newSection(int kind, int sort, int length, Numbers numbers) {
        if (sectionCount < 0 || sectionCount >= sections.length) {
            return null;
        }
        Section made = new Section(sectionCount, kind, sort, length, numbers);
        sections[sectionCount] = made;
        sectionCount++;
        return made;
    }

    private Section sectionAt(int s) {
        return s < 0 || s >= sectionCount || s >= sections.length ? null : sections[s];
    }

    private Chain chainAt(int c) {
        return c < 0 || c >= chainCount || c >= chains.length ? null : chains[c];
    }

    private Kept keptAt(int k) {
        return k < 0 || k >= keptCount || k >= kepts.length ? null : kepts[k];
    }

    private static int numberOf(Chain c) {
        return c == null ? NONE : c.number;
    }

    // ---- chains ----

    public int chain() {
        return chainCount >= chains.length ? NONE : registered(new Chain());
    }

    public int add(int c, int s) {
        Chain chain = chainAt(c);
        Section section = sectionAt(s);
        if (chain == null || section == null || section.home != null || chain.holder != null) {
            return NONE;
        }
        if (chain.size >= MOST_MEMBERS || chain.size > 0 && chain.sort() != section.sort) {
            return NONE;
        }
        if (section.spreads() && chain.spreaders() >= MOST_SPREADERS) {
            return NONE;
        }
        chain.join(section);
        return section.place;
    }

    public int loop(int c, int a, int b, int n, long bits) {
        Chain chain = chainAt(c);
        if (chain == null || chain.holder != null || chain.loopCount >= MOST_LOOPS) {
            return NONE;
        }
        if (a < 0 || a > b || b >= chain.size || n < 1 || n > LONGEST_LOOP || chain.changesRate(a, b)) {
            return NONE;
        }
        Numbers numbers = numbersOf(chain.sort());
        if (numbers == null || !numbers.holds(bits)) {
            return NONE;
        }
        chain.tie(new Loop(a, b, n, numbers.clean(bits)));
        return chain.loopCount;
    }

    public boolean within(int s, int c) {
        Section mix = sectionAt(s);
        Chain chain = chainAt(c);
        if (mix == null || chain == null || mix.kind != MIX || mix.inner != null || mix.home == null) {
            return false;
        }
        if (mix.home.number <= chain.number || chain.holder != null || chain.size == 0) {
            return false;
        }
        if (chain.sort() != mix.sort || chain.changesRate(0, chain.size - 1)) {
            return false;
        }
        mix.inner = chain;
        chain.holder = mix;
        return true;
    }

    public int chain(int c, int what) {
        Chain chain = chainAt(c);
        if (chain == null) {
            return NONE;
        }
        switch (what) {
            case 0: return chain.size;
            case 1: return chain.loopCount;
            case 2: return chain.total;
            case 3: return chain.holder == null ? NONE : chain.holder.number;
            case 4: return chain.sort();
            default: return NONE;
        }
    }

    public int count(int what) {
        switch (what) {
            case 0: return sectionCount;
            case 1: return chainCount;
            case 2: return keptCount;
            default: return NONE;
        }
    }

    private int registered(Chain made) {
        if (chainCount < 0 || chainCount >= chains.length) {
            return NONE;
        }
        made.number = chainCount;
        chains[chainCount] = made;
        chainCount++;
        return made.number;
    }

    // ---- samples ----

    public int feed(int c, long bits) {
        Chain chain = fedAlone(c);
        if (chain == null) {
            return NONE;
        }
        Numbers numbers = numbersOf(chain.sort());
        if (numbers == null || !numbers.holds(bits)) {
            return NONE;
        }
        return send(chain, 0, numbers.clean(bits), 0);
    }

    public int run(int c, int n, int seed) {
        Chain chain = fedAlone(c);
        if (chain == null || n < 1 || n > MOST_RUN) {
            return NONE;
        }
        Numbers numbers = numbersOf(chain.sort());
        if (numbers == null) {
            return NONE;
        }
        int out = 0;
        int next = seed;
        for (int i = 0; i < n; i++) {
            out += send(chain, 0, numbers.sample((short) next), 0);
            next = next * 1103515245 + 12345;
        }
        return out;
    }

    public long output(int c, int i) {
        Chain chain = chainAt(c);
        return chain == null ? 0 : chain.madeAs(i);
    }

    public long measure(int c, int what) {
        Chain chain = chainAt(c);
        if (chain == null) {
            return 0;
        }
        Numbers numbers = numbersOf(chain.sort());
        if (numbers == null) {
            return 0;
        }
        switch (what) {
            case 0: return chain.greatestSize(numbers);
            case 1: return chain.signChanges(numbers);
            case 2: return chain.longestSilence(numbers);
            default: return 0;
        }
    }

    private Chain fedAlone(int c) {
        Chain chain = chainAt(c);
        return chain == null || chain.size == 0 || chain.holder != null ? null : chain;
    }

    /** Sends a sample on from a place of a chain; answers how many came out at its end. */
    private static int send(Chain c, int from, long x, int depth) {
        if (depth > DEEPEST) {
            return 0;
        }
        long v = x;
        for (int p = from; p < c.size; p++) {
            Section s = c.memberAt(p);
            if (s == null) {
                return 0;
            }
            if (s.kind == DOWN) {
                if (!s.letsThrough()) {
                    return 0;
                }
            } else if (s.spreads()) {
                int out = 0;
                for (int i = 0; i < s.length; i++) {
                    out += send(c, p + 1, i == 0 || s.kind == HOLD ? v : 0, depth + 1);
                }
                return out;
            } else {
                v = c.looped(p, s, v);
                long inner = 0;
                if (s.inner != null) {
                    send(s.inner, 0, v, depth + 1);
                    inner = s.inner.madeLast();
                }
                v = s.step(v, inner);
                c.note(p, v);
            }
        }
        c.emit(v);
        return 1;
    }

    // ---- states kept and brought back ----

    public boolean reset(int c) {
        Chain chain = chainAt(c);
        if (chain == null) {
            return false;
        }
        int count = gather(chain);
        for (int i = 0; i < count && i < tree.length; i++) {
            if (tree[i] != null) {
                tree[i].silence();
            }
        }
        return true;
    }

    public int keep(int c) {
        Chain chain = chainAt(c);
        if (chain == null || keptCount < 0 || keptCount >= kepts.length) {
            return NONE;
        }
        int count = gather(chain);
        int room = 0;
        for (int i = 0; i < count && i < tree.length; i++) {
            room += tree[i] == null ? 0 : tree[i].valueCount();
        }
        Kept kept = new Kept(chain, count, room);
        int at = 0;
        for (int i = 0; i < count && i < tree.length; i++) {
            if (tree[i] != null) {
                kept.shape(i, tree[i]);
                at = tree[i].save(kept.values, at);
            }
        }
        kepts[keptCount] = kept;
        keptCount++;
        return keptCount - 1;
    }

    public boolean back(int k) {
        Kept kept = keptAt(k);
        if (kept == null || !gatherAsKept(kept)) {
            return false;
        }
        int at = 0;
        for (int i = 0; i < kept.chainCount() && i < tree.length; i++) {
            if (tree[i] != null) {
                at = tree[i].load(kept.values, at);
            }
        }
        return true;
    }

    public boolean same(int k) {
        Kept kept = keptAt(k);
        if (kept == null || !gatherAsKept(kept)) {
            return false;
        }
        int at = 0;
        for (int i = 0; i < kept.chainCount() && i < tree.length; i++) {
            if (tree[i] == null || !tree[i].holdsValues(kept.values, at)) {
                return false;
            }
            at += tree[i].valueCount();
        }
        return true;
    }

    /** Puts a chain and all those within it into the tree; answers how many they are. */
    private int gather(Chain root) {
        int count = gathered(root, 0);
        for (int i = 0; i < count && i < tree.length; i++) {
            Chain c = tree[i];
            for (int p = 0; c != null && p < c.size; p++) {
                Section s = c.memberAt(p);
                count = s == null ? count : gathered(s.inner, count);
            }
        }
        return count;
    }

    /** Puts a chain more into the tree, if there is one; answers how many there are then. */
    private int gathered(Chain c, int count) {
        if (c == null || count < 0 || count >= tree.length) {
            return count;
        }
        tree[count] = c;
        return count + 1;
    }

    /** Gathers the chains of what was kept; false if they are others now. */
    private boolean gatherAsKept(Kept kept) {
        int count = gather(kept.root);
        if (count != kept.chainCount()) {
            return false;
        }
        for (int i = 0; i < count && i < tree.length; i++) {
            if (tree[i] == null || !kept.isShaped(i, tree[i])) {
                return false;
            }
        }
        return true;
    }

    // ---- poles and dead cycles ----

    public int poles(int s) {
        Section section = sectionAt(s);
        if (section == null) {
            return NONE;
        }
        switch (section.kind) {
            case POLE: return judgedPole(meaningOf(section, 1));
            case PASS: return judgedPole(meaningOf(section, 0));
            case DIRECT:
            case SECOND:
            case TURNED: return judgedPair(meaningOf(section, 3), meaningOf(section, 4));
            default: return NONE;
        }
    }

    public int cycles(int s) {
        return dead.look(sectionAt(s)) ? dead.found : NONE;
    }

    public int cycle(int s, int k, int what) {
        if (!dead.look(sectionAt(s)) || k < 0 || k >= dead.found) {
            return 0;
        }
        switch (what) {
            case 0: return dead.leastOf(k);
            case 1: return dead.lengthOf(k);
            case 2: return dead.basinOf(k);
            default: return 0;
        }
    }

    private long meaningOf(Section s, int k) {
        return s.numbers.meaning(s.factor(k), s.takesWhole(), doubles);
    }

    /** The size of a pole is that of its negative: both kinds with one pole are judged here. */
    private int judgedPole(long pole) {
        if (!doubles.isFinite(pole)) {
            return 0;
        }
        return judged(doubles.compared(ONE_BITS, doubles.sizeOf(pole)));
    }

    /**
     * The roots of z * z + a * z + b lie in the closed circle just if b's size is at most 1 and a's
     * size at most 1 + b, in the open one just if both are less.
     */
    private int judgedPair(long a, long b) {
        if (!doubles.isFinite(a) || !doubles.isFinite(b)) {
            return 0;
        }
        int product = doubles.compared(ONE_BITS, doubles.sizeOf(b));
        if (product < 0) {
            return 0;
        }
        int edge = comparedToOnePlus(doubles.sizeOf(a), b);
        return judged(edge < product ? edge : product);
    }

    private static int judged(int room) {
        return room > 0 ? 1 : room == 0 ? 2 : 0;
    }

    /**
     * The sign of 1 + b - size, for b from -1 to 1. A difference of two numbers, neither more than
     * twice the other, is exact: only such ones are formed.
     */
    private int comparedToOnePlus(long size, long b) {
        if (doubles.compared(size, TWO_BITS) > 0) {
            return -1;
        }
        if (doubles.compared(size, HALF_BITS) >= 0) {
            return doubles.compared(b, doubles.plus(size, doubles.negative(ONE_BITS)));
        }
        if (doubles.compared(b, doubles.negative(HALF_BITS)) > 0) {
            return 1;
        }
        return doubles.compared(doubles.plus(b, ONE_BITS), size);
    }

    // ---- chains made anew ----

    public int convert(int c, int sort) {
        Chain old = fedAlone(c);
        Numbers numbers = numbersOf(sort);
        if (old == null || numbers == null || !canRemake(old, numbers)) {
            return NONE;
        }
        return numberOf(remade(old, sort, numbers, 0));
    }

    private boolean canRemake(Chain old, Numbers numbers) {
        int count = gather(old);
        int members = 0;
        for (int i = 0; i < count && i < tree.length; i++) {
            if (tree[i] == null || !canTranslate(tree[i], numbers)) {
                return false;
            }
            members += tree[i].size;
        }
        return sectionCount + members <= MOST_SECTIONS && chainCount + count <= MOST_CHAINS;
    }

    private boolean canTranslate(Chain c, Numbers numbers) {
        for (int p = 0; p < c.size; p++) {
            Section s = c.memberAt(p);
            for (int k = 0; s != null && k < s.factorCount(); k++) {
                if (!numbers.holds(translated(s.numbers, s.factor(k), s.takesWhole(), numbers))) {
                    return false;
                }
            }
        }
        Numbers own = numbersOf(c.sort());
        for (int i = 0; i < c.loopCount; i++) {
            Loop l = c.loopAt(i);
            if (own == null || l == null || !numbers.holds(translated(own, l.factor, false, numbers))) {
                return false;
            }
        }
        return true;
    }

    private long translated(Numbers from, long bits, boolean whole, Numbers to) {
        return to.nearest(from.meaning(bits, whole, doubles), whole, doubles);
    }

    private Chain remade(Chain old, int sort, Numbers numbers, int depth) {
        if (depth > DEEPEST) {
            return null;
        }
        Chain made = new Chain();
        for (int p = 0; p < old.size; p++) {
            Section s = old.memberAt(p);
            if (s == null) {
                return null;
            }
            Chain inner = s.inner == null ? null : remade(s.inner, sort, numbers, depth + 1);
            Section copy = remadeSection(s, sort, numbers);
            if (copy == null) {
                return null;
            }
            made.join(copy);
            if (inner != null) {
                copy.inner = inner;
                inner.holder = copy;
            }
        }
        remakeLoops(old, made, numbers);
        registered(made);
        return made;
    }

    private Section remadeSection(Section s, int sort, Numbers numbers) {
        Section copy = newSection(s.kind, sort, s.length, numbers);
        if (copy == null) {
            return null;
        }
        for (int k = 0; k < s.factorCount(); k++) {
            copy.setFactor(k, translated(s.numbers, s.factor(k), s.takesWhole(), numbers));
        }
        if (s.sort == FIXED && sort == FIXED) {
            copy.rounding = s.rounding;
            copy.limit = s.limit;
        }
        return copy;
    }

    private void remakeLoops(Chain old, Chain made, Numbers numbers) {
        Numbers own = numbersOf(old.sort());
        for (int i = 0; i < old.loopCount; i++) {
            Loop l = old.loopAt(i);
            if (own != null && l != null) {
                made.tie(new Loop(l.from, l.to, l.past.size(), translated(own, l.factor, false, numbers)));
            }
        }
    }

    // ---- the classes inside ----

    /** The arithmetic of a sort: its values, told as bits, and the terms that its sums are made of. */
    private abstract static class Numbers {

        abstract boolean holds(long bits);

        /** The bits as they are told: there is one NOT-A-NUMBER alone. */
        abstract long clean(long bits);

        abstract long product(long factor, long value);

        /** A value alone, as a term. */
        abstract long term(long value);

        abstract long plus(long a, long b);

        /** The term that takes off what this one adds. */
        abstract long opposite(long term);

        abstract long sizeOf(long value);

        abstract long negative(long value);

        abstract boolean isNumber(long value);

        /** The sign of a - b, both numbers. */
        abstract int compared(long a, long b);

        abstract long sample(int low);

        /** num / den; den is not 0. What the sort does not hold is no answer of it. */
        abstract long quotient(int num, int den, boolean whole, Real doubles);

        /** The bits of the double that a coefficient means. */
        abstract long meaning(long bits, boolean whole, Real doubles);

        /** The coefficient nearest to a double. What the sort does not hold is no answer of it. */
        abstract long nearest(long bits, boolean whole, Real doubles);

        boolean above(long a, long b) {
            return isNumber(a) && isNumber(b) && compared(a, b) > 0;
        }

        /** mantissa / 2 ^ drop to the nearest whole number, halves to the even one. */
        static long halfEven(long mantissa, int drop) {
            if (drop <= 0) {
                return mantissa;
            }
            if (drop > 63) {
                return 0;
            }
            long kept = mantissa >>> drop;
            long lost = mantissa & ((1L << drop) - 1);
            long half = 1L << (drop - 1);
            return lost > half || lost == half && (kept & 1) == 1 ? kept + 1 : kept;
        }
    }

    /** Doubles and floats, by their bits alone: no sum of machine doubles may answer NOT-A-NUMBER. */
    private static final class Real extends Numbers {
        /** The top bit that every mantissa is brought to ahead of a product. */
        private static final int PRODUCT_TOP = 52;
        private static final long LOW_27 = (1L << 27) - 1;
        private static final long LOW_44 = (1L << 44) - 1;
        /** A mantissa of 53 bits, these and a carry fill a long: three would do to round a sum rightly. */
        private static final int GUARD_BITS = 9;

        private final int fractionBits;
        private final long hidden;
        private final int topExponent;
        private final int bias;
        private final long signMask;
        private final long infinity;
        private final long notANumber;

        Real(int fractionBits, int exponentBits) {
            this.fractionBits = fractionBits;
            hidden = 1L << fractionBits;
            topExponent = (1 << exponentBits) - 1;
            bias = topExponent >> 1;
            signMask = -1L << (fractionBits + exponentBits);
            infinity = (long) topExponent << fractionBits;
            notANumber = infinity | (hidden >> 1);
        }

        boolean holds(long bits) {
            return fractionBits == 52 || bits == (int) bits;
        }

        long clean(long bits) {
            return isNumber(bits) ? bits : notANumber;
        }

        long term(long value) {
            return value;
        }

        long sizeOf(long value) {
            return value & ~signMask;
        }

        long negative(long value) {
            return isNumber(value) ? value ^ signMask : notANumber;
        }

        boolean isNumber(long value) {
            return (value & ~signMask) <= infinity;
        }

        boolean isFinite(long value) {
            return (value & ~signMask) < infinity;
        }

        int compared(long a, long b) {
            return Long.compare(a < 0 ? -sizeOf(a) : a, b < 0 ? -sizeOf(b) : b);
        }

        long product(long factor, long value) {
            long a = sizeOf(factor);
            long b = sizeOf(value);
            boolean below = (factor < 0) != (value < 0);
            if (a >= infinity || b >= infinity) {
                return a > infinity || b > infinity || a == 0 || b == 0 ? notANumber : signed(below, infinity);
            }
            if (a == 0 || b == 0) {
                return signed(below, 0);
            }
            long am = mantissa(a);
            long bm = mantissa(b);
            int al = lead(am) - 62 + PRODUCT_TOP;
            int bl = lead(bm) - 62 + PRODUCT_TOP;
            return packed(below, exponent(a) - al + exponent(b) - bl + 44, highProduct(am << al, bm << bl));
        }

        /** The product of two mantissas of 53 bits without its lowest 44; what is lost shows in the last bit. */
        private static long highProduct(long a, long b) {
            long ah = a >>> 27;
            long al = a & LOW_27;
            long bh = b >>> 27;
            long bl = b & LOW_27;
            long low = al * bl;
            long middle = ah * bl + al * bh + (low >>> 27);
            long high = ah * bh + (middle >>> 27);
            long rest = (middle & LOW_27) << 27 | (low & LOW_27);
            long top = high << 10 | rest >>> 44;
            return (rest & LOW_44) == 0 ? top : top | 1;
        }

        long plus(long a, long b) {
            long as = sizeOf(a);
            long bs = sizeOf(b);
            if (as >= infinity || bs >= infinity) {
                return withInfinity(a, b);
            }
            if (as == 0 || bs == 0) {
                return as != 0 ? a : bs != 0 ? b : a & b;
            }
            return as >= bs ? added(a < 0, as, (a < 0) == (b < 0), bs) : added(b < 0, bs, (a < 0) == (b < 0), as);
        }

        long opposite(long term) {
            return negative(term);
        }

        private long withInfinity(long a, long b) {
            if (!isNumber(a) || !isNumber(b)) {
                return notANumber;
            }
            if (sizeOf(a) != infinity) {
                return b;
            }
            return sizeOf(b) == infinity && a != b ? notANumber : a;
        }

        /** The sum of two finite sizes that are not 0, or their difference, with the sign of the greater one. */
        private long added(boolean below, long greater, boolean alike, long less) {
            int exponent = exponent(greater);
            int apart = exponent - exponent(less);
            long big = mantissa(greater) << GUARD_BITS;
            long small = shifted(mantissa(less) << GUARD_BITS, apart);
            long sum = alike ? big + small : big - small;
            return sum == 0 ? 0 : packed(below, exponent - GUARD_BITS, sum);
        }

        /** What a shift loses shows in the last bit. */
        private static long shifted(long mantissa, int by) {
            if (by <= 0) {
                return mantissa;
            }
            if (by > 62) {
                return 1;
            }
            long kept = mantissa >>> by;
            return kept << by == mantissa ? kept : kept | 1;
        }

        private long signed(boolean below, long size) {
            return below ? size | signMask : size;
        }

        private long mantissa(long size) {
            return size < hidden ? size : (size & (hidden - 1)) | hidden;
        }

        /** A size is its mantissa, times 2 to the power of this. */
        private int exponent(long size) {
            int told = (int) (size >>> fractionBits);
            return (told == 0 ? 1 : told) - bias - fractionBits;
        }

        /** How far a number above 0 is shifted to the left until its top bit is bit 62. */
        private static int lead(long number) {
            long n = number;
            int by = 0;
            if (n >>> 31 == 0) {
                by = 32;
                n <<= 32;
            }
            if (n >>> 47 == 0) {
                by += 16;
                n <<= 16;
            }
            if (n >>> 55 == 0) {
                by += 8;
                n <<= 8;
            }
            if (n >>> 59 == 0) {
                by += 4;
                n <<= 4;
            }
            if (n >>> 61 == 0) {
                by += 2;
                n <<= 2;
            }
            return n >>> 62 == 0 ? by + 1 : by;
        }

        /** mantissa * 2 ^ exponent, rounded; the mantissa is above 0, its last bit shows what it lost. */
        long packed(boolean below, int exponent, long mantissa) {
            int by = lead(mantissa);
            int told = exponent - by + 62 + bias;
            if (told >= topExponent) {
                return signed(below, infinity);
            }
            int drop = 62 - fractionBits;
            if (told < 1) {
                drop += 1 - told;
                told = 1;
            }
            // A carry out of the fraction makes the exponent one more, up to infinity's.
            long size = ((long) (told - 1) << fractionBits) + halfEven(mantissa << by, drop);
            return signed(below, size);
        }

        /** value * 2 ^ exponent. */
        long scaled(long value, int exponent) {
            return value == 0 ? 0 : packed(value < 0, exponent, Math.abs(value));
        }

        long sample(int low) {
            return scaled(low, -8);
        }

        /** The value nearest to one of another format. */
        long taken(Real from, long bits) {
            long size = from.sizeOf(bits);
            if (size > from.infinity) {
                return notANumber;
            }
            if (size == 0 || size == from.infinity) {
                return signed(bits < 0, size == 0 ? 0 : infinity);
            }
            return packed(bits < 0, from.exponent(size), from.mantissa(size));
        }

        long quotient(int num, int den, boolean whole, Real doubles) {
            return taken(doubles, doubles.divided(num, den));
        }

        /** num / den; den is not 0. */
        private long divided(int num, int den) {
            boolean below = (num < 0) != (den < 0);
            long n = Math.abs((long) num);
            int nl = lead(n);
            int dl = lead(Math.abs((long) den)) - 31;
            long divisor = Math.abs((long) den) << dl;
            if (n == 0 || divisor == 0) {
                return signed(below, 0);
            }
            long high = (n << nl) / divisor;
            long rest = (n << nl) % divisor << 30;
            long q = high << 30 | rest / divisor;
            return packed(below, dl - nl - 30, rest % divisor == 0 ? q : q | 1);
        }

        long meaning(long bits, boolean whole, Real doubles) {
            return doubles.taken(this, bits);
        }

        long nearest(long bits, boolean whole, Real doubles) {
            return taken(doubles, bits);
        }
    }

    /** FIXED: shorts; terms are counted in 16384ths. */
    private static final class Shorts extends Numbers {

        boolean holds(long bits) {
            return bits == (short) bits;
        }

        long clean(long bits) {
            return bits;
        }

        long product(long factor, long value) {
            return factor * value;
        }

        long term(long value) {
            return value * WHOLE;
        }

        long plus(long a, long b) {
            return a + b;
        }

        long opposite(long term) {
            return -term;
        }

        long sizeOf(long value) {
            return value < 0 ? negative(value) : value;
        }

        long negative(long value) {
            return cut(-value);
        }

        boolean isNumber(long value) {
            return true;
        }

        int compared(long a, long b) {
            return Long.compare(a, b);
        }

        long sample(int low) {
            return low;
        }

        long quotient(int num, int den, boolean whole, Real doubles) {
            long d = Math.abs((long) den);
            long n = (den < 0 ? -(long) num : num) * (whole ? 1 : WHOLE);
            if (d == 0) {
                return NO_SHORT;
            }
            long q = Math.floorDiv(n, d);
            long twice = (n - q * d) * 2;
            return twice > d || twice == d && (q & 1) == 1 ? q + 1 : q;
        }

        long meaning(long bits, boolean whole, Real doubles) {
            return doubles.scaled(bits, whole ? 0 : -WHOLE_BITS);
        }

        long nearest(long bits, boolean whole, Real doubles) {
            long size = doubles.sizeOf(bits);
            int exponent = doubles.exponent(size) + (whole ? 0 : WHOLE_BITS);
            // A double with no place behind its point is 0 or far above every short.
            if (!doubles.isFinite(bits) || exponent >= 0) {
                return NO_SHORT;
            }
            long nearest = halfEven(doubles.mantissa(size), -exponent);
            return bits < 0 ? -nearest : nearest;
        }

        /** The nearest short. */
        static long cut(long number) {
            return number > GREATEST_SHORT ? GREATEST_SHORT : number < LEAST_SHORT ? LEAST_SHORT : number;
        }

        /** A sum as a whole number, by ROUNDING 0, or else towards 0. */
        static long rounded(long sum, int rounding) {
            return rounding == 0 ? (sum + WHOLE / 2) >> WHOLE_BITS : sum / WHOLE;
        }

        static boolean isShort(long number) {
            return number >= LEAST_SHORT && number <= GREATEST_SHORT;
        }

        /** What an over becomes. */
        static long limited(long number, int limit) {
            return limit == 0 ? cut(number) : (short) number;
        }
    }

    /** A row of values, the eldest first; one that comes takes the eldest's place. */
    private static final class Row {
        private final long[] cells;
        private int eldest;

        Row(int size) {
            cells = new long[size < 0 ? 0 : size];
        }

        int size() {
            return cells.length;
        }

        private int index(int k) {
            int i = eldest + k;
            return i >= cells.length ? i - cells.length : i;
        }

        long at(int k) {
            return k < 0 || k >= cells.length ? 0 : cells[index(k)];
        }

        void put(int k, long value) {
            if (k >= 0 && k < cells.length) {
                cells[index(k)] = value;
            }
        }

        void push(long value) {
            put(0, value);
            eldest = eldest + 1 >= cells.length ? 0 : eldest + 1;
        }

        void clear() {
            Arrays.fill(cells, 0L);
        }

        int save(long[] values, int at) {
            for (int k = 0; k < cells.length; k++) {
                if (at + k >= 0 && at + k < values.length) {
                    values[at + k] = at(k);
                }
            }
            return at + cells.length;
        }

        int load(long[] values, int at) {
            for (int k = 0; k < cells.length; k++) {
                if (at + k >= 0 && at + k < values.length) {
                    put(k, values[at + k]);
                }
            }
            return at + cells.length;
        }

        boolean holdsValues(long[] values, int at) {
            for (int k = 0; k < cells.length; k++) {
                if (at + k < 0 || at + k >= values.length || values[at + k] != at(k)) {
                    return false;
                }
            }
            return true;
        }
    }

    /** A section: what it is, and what it makes of a sample. */
    private static final class Section {
        final int number;
        final int kind;
        final int sort;
        final int length;
        final Numbers numbers;
        private final long[] factors;
        final Row states;
        int rounding;
        int limit;
        final Row rest = new Row(1);
        int overs;
        int touches;
        Chain home;
        int place = NONE;
        Chain inner;

        Section(int number, int kind, int sort, int length, Numbers numbers) {
            this.number = number;
            this.kind = kind;
            this.sort = sort;
            this.length = length;
            this.numbers = numbers;
            int count = kind < 0 || kind >= FACTORS.length ? 0 : FACTORS[kind];
            factors = new long[count < 0 ? 0 : count];
            int cells = kind < 0 || kind >= CELLS.length ? 0 : CELLS[kind];
            states = new Row(cells < 0 ? length : cells);
        }

        int factorCount() {
            return factors.length;
        }

        boolean hasFactor(int k) {
            return k >= 0 && k < factors.length;
        }

        long factor(int k) {
            return k < 0 || k >= factors.length ? 0 : factors[k];
        }

        void setFactor(int k, long bits) {
            if (k >= 0 && k < factors.length) {
                factors[k] = bits;
            }
        }

        /** Whether a coefficient of FIXED means the short itself. */
        boolean takesWhole() {
            return kind == CLIP || kind == DEAD;
        }

        boolean spreads() {
            return kind == UP || kind == HOLD;
        }

        boolean changesRate() {
            return kind == DOWN || spreads();
        }

        /** Of DOWN: whether the sample that comes goes on. */
        boolean letsThrough() {
            long came = states.at(0);
            states.put(0, came + 1 >= length ? 0 : came + 1);
            return came == 0;
        }

        /** What goes on for the sample x; made is what the chain within made of it. */
        long step(long x, long made) {
            switch (kind) {
                case GAIN: return settled(times(0, x));
                case POLE: return pole(x);
                case DIRECT: return direct(x);
                case SECOND: return second(x);
                case TURNED: return turned(x);
                case PASS: return pass(x);
                case DELAY: return delayed(x);
                case MEAN: return mean(x);
                case COMB: return comb(x);
                case CLIP: return clipped(x);
                case DEAD: return deadened(x);
                case PEAK: return peak(x);
                case MIX: return settled(numbers.plus(times(0, x), times(1, made)));
                default: return x;
            }
        }

        private long times(int k, long value) {
            return numbers.product(factor(k), value);
        }

        /** A product that is taken off. */
        private long lessTimes(int k, long value) {
            return numbers.opposite(numbers.product(factor(k), value));
        }

        private long pole(long x) {
            long y = settled(numbers.plus(times(0, x), times(1, states.at(0))));
            states.put(0, y);
            return y;
        }

        private long direct(long x) {
            long t = numbers.plus(times(0, x), times(1, states.at(0)));
            t = numbers.plus(t, times(2, states.at(1)));
            t = numbers.plus(t, lessTimes(3, states.at(2)));
            long y = settled(numbers.plus(t, lessTimes(4, states.at(3))));
            states.put(1, states.at(0));
            states.put(0, x);
            states.put(3, states.at(2));
            states.put(2, y);
            return y;
        }

        private long second(long x) {
            long first = states.at(0);
            long t = numbers.plus(numbers.term(x), lessTimes(3, first));
            long w = settled(numbers.plus(t, lessTimes(4, states.at(1))));
            t = numbers.plus(times(0, w), times(1, first));
            long y = settled(numbers.plus(t, times(2, states.at(1))));
            states.put(1, first);
            states.put(0, w);
            return y;
        }

        private long turned(long x) {
            long y = settled(numbers.plus(times(0, x), numbers.term(states.at(0))));
            long t = numbers.plus(times(1, x), lessTimes(3, y));
            states.put(0, settled(numbers.plus(t, numbers.term(states.at(1)))));
            states.put(1, settled(numbers.plus(times(2, x), lessTimes(4, y))));
            return y;
        }

        private long pass(long x) {
            long s = states.at(0);
            long w = settled(numbers.plus(numbers.term(x), lessTimes(0, s)));
            long y = settled(numbers.plus(times(0, w), numbers.term(s)));
            states.put(0, w);
            return y;
        }

        private long delayed(long x) {
            long y = states.at(0);
            states.push(x);
            return y;
        }

        private long mean(long x) {
            states.push(x);
            long t = numbers.term(states.at(0));
            for (int k = 1; k < states.size(); k++) {
                t = numbers.plus(t, numbers.term(states.at(k)));
            }
            return settled(times(0, settled(t)));
        }

        private long comb(long x) {
            long y = settled(numbers.plus(numbers.term(x), times(0, states.at(0))));
            states.push(y);
            return y;
        }

        private long clipped(long x) {
            long edge = factor(0);
            if (numbers.above(x, edge)) {
                touches++;
                return edge;
            }
            long other = numbers.negative(edge);
            if (numbers.above(other, x)) {
                touches++;
                return other;
            }
            return x;
        }

        private long deadened(long x) {
            long edge = factor(0);
            if (!numbers.isNumber(x) || !numbers.isNumber(edge) || numbers.above(numbers.sizeOf(x), edge)) {
                return x;
            }
            touches++;
            return 0;
        }

        private long peak(long x) {
            long size = numbers.sizeOf(x);
            long s = states.at(0);
            long y = numbers.above(size, s) ? size : settled(times(0, s));
            states.put(0, y);
            return y;
        }

        /** A sum of terms, as a value. */
        long settled(long sum) {
            if (sort != FIXED) {
                return sum;
            }
            long all = rounding == 2 ? sum + rest.at(0) : sum;
            long number = Shorts.rounded(all, rounding);
            if (rounding == 2) {
                rest.put(0, all - number * WHOLE);
            }
            if (Shorts.isShort(number)) {
                return number;
            }
            overs++;
            return Shorts.limited(number, limit);
        }
    }

    /** A loop of a chain: what came from one place is added, later, to what comes to another. */
    private static final class Loop {
        final int from;
        final int to;
        final long factor;
        final Row past;

        Loop(int from, int to, int samples, long factor) {
            this.from = from;
            this.to = to;
            this.factor = factor;
            past = new Row(samples);
        }
    }

    /** A chain: its sections in a row, its loops and its output. */
    private static final class Chain {
        int number = NONE;
        private final Section[] members = new Section[MOST_MEMBERS];
        int size;
        private final Loop[] loops = new Loop[MOST_LOOPS];
        int loopCount;
        private final long[] made = new long[OUTPUT_ROOM];
        private int next;
        private int held;
        int total;
        Section holder;

        Section memberAt(int p) {
            return p < 0 || p >= size || p >= members.length ? null : members[p];
        }

        Loop loopAt(int i) {
            return i < 0 || i >= loopCount || i >= loops.length ? null : loops[i];
        }

        int sort() {
            Section first = memberAt(0);
            return first == null ? NONE : first.sort;
        }

        void join(Section s) {
            if (size >= 0 && size < members.length) {
                members[size] = s;
                s.home = this;
                s.place = size;
                size++;
            }
        }

        void tie(Loop l) {
            if (loopCount >= 0 && loopCount < loops.length) {
                loops[loopCount] = l;
                loopCount++;
            }
        }

        int spreaders() {
            int found = 0;
            for (int p = 0; p < size; p++) {
                Section s = memberAt(p);
                found += s != null && s.spreads() ? 1 : 0;
            }
            return found;
        }

        /** Whether one of the sections from a to b changes how many samples there are. */
        boolean changesRate(int a, int b) {
            for (int p = a < 0 ? 0 : a; p <= b && p < size; p++) {
                Section s = memberAt(p);
                if (s != null && s.changesRate()) {
                    return true;
                }
            }
            return false;
        }

        /** What comes to a place by way of the loops, for a sample x. */
        long looped(int p, Section s, long x) {
            long v = x;
            for (int i = 0; i < loopCount; i++) {
                Loop l = loopAt(i);
                if (l != null && l.from == p) {
                    long product = s.numbers.product(l.factor, l.past.at(0));
                    v = s.settled(s.numbers.plus(s.numbers.term(v), product));
                }
            }
            return v;
        }

        /** The loops take what came from a place. */
        void note(int p, long v) {
            for (int i = 0; i < loopCount; i++) {
                Loop l = loopAt(i);
                if (l != null && l.to == p) {
                    l.past.push(v);
                }
            }
        }

        void emit(long v) {
            if (next < 0 || next >= made.length) {
                return;
            }
            made[next] = v;
            next = next + 1 >= made.length ? 0 : next + 1;
            held = held < made.length ? held + 1 : held;
            total++;
        }

        /** The latest output but back; what is not kept is 0. */
        private long madeBefore(int back) {
            if (back < 0 || back >= held) {
                return 0;
            }
            int i = next - 1 - back;
            int at = i < 0 ? i + made.length : i;
            return at < 0 || at >= made.length ? 0 : made[at];
        }

        long madeLast() {
            return madeBefore(0);
        }

        long madeAs(int i) {
            return i < 0 || i >= total ? 0 : madeBefore(total - 1 - i);
        }

        long greatestSize(Numbers numbers) {
            long greatest = 0;
            for (int back = held - 1; back >= 0; back--) {
                long size = numbers.sizeOf(madeBefore(back));
                greatest = numbers.above(size, greatest) ? size : greatest;
            }
            return greatest;
        }

        int signChanges(Numbers numbers) {
            int changes = 0;
            int last = 0;
            for (int back = held - 1; back >= 0; back--) {
                long v = madeBefore(back);
                int sign = numbers.isNumber(v) ? numbers.compared(v, 0) : 0;
                changes += sign * last < 0 ? 1 : 0;
                last = sign == 0 ? last : sign;
            }
            return changes;
        }

        int longestSilence(Numbers numbers) {
            int longest = 0;
            int row = 0;
            for (int back = held - 1; back >= 0; back--) {
                long v = madeBefore(back);
                row = numbers.isNumber(v) && numbers.compared(v, 0) == 0 ? row + 1 : 0;
                longest = Math.max(longest, row);
            }
            return longest;
        }

        /** How many rows of values there are: two of each section, one of each loop. */
        int rowCount() {
            return 2 * size + loopCount;
        }

        Row rowAt(int i) {
            if (i < 2 * size) {
                Section s = memberAt(i >> 1);
                return s == null ? null : (i & 1) == 0 ? s.rest : s.states;
            }
            Loop l = loopAt(i - 2 * size);
            return l == null ? null : l.past;
        }

        int valueCount() {
            int count = 0;
            for (int i = 0; i < rowCount(); i++) {
                Row row = rowAt(i);
                count += row == null ? 0 : row.size();
            }
            return count;
        }

        void silence() {
            for (int i = 0; i < rowCount(); i++) {
                Row row = rowAt(i);
                if (row != null) {
                    row.clear();
                }
            }
            next = 0;
            held = 0;
            total = 0;
        }

        int save(long[] values, int at) {
            int to = at;
            for (int i = 0; i < rowCount(); i++) {
                Row row = rowAt(i);
                to = row == null ? to : row.save(values, to);
            }
            return to;
        }

        int load(long[] values, int at) {
            int from = at;
            for (int i = 0; i < rowCount(); i++) {
                Row row = rowAt(i);
                from = row == null ? from : row.load(values, from);
            }
            return from;
        }

        boolean holdsValues(long[] values, int at) {
            int from = at;
            for (int i = 0; i < rowCount(); i++) {
                Row row = rowAt(i);
                if (row == null || !row.holdsValues(values, from)) {
                    return false;
                }
                from += row.size();
            }
            return true;
        }
    }

    /** What was kept of a chain: its values, and the shape that it and those within it had. */
    private static final class Kept {
        private static final int MARKS = 3;

        final Chain root;
        private final int[] shapes;
        final long[] values;

        Kept(Chain root, int chainCount, int room) {
            this.root = root;
            shapes = new int[chainCount < 0 ? 0 : chainCount * MARKS];
            values = new long[room < 0 ? 0 : room];
        }

        int chainCount() {
            return shapes.length / MARKS;
        }

        void shape(int i, Chain c) {
            int at = i * MARKS;
            if (at >= 0 && at + 2 < shapes.length) {
                shapes[at] = c.number;
                shapes[at + 1] = c.size;
                shapes[at + 2] = c.loopCount;
            }
        }

        boolean isShaped(int i, Chain c) {
            int at = i * MARKS;
            return at >= 0 && at + 2 < shapes.length && shapes[at] == c.number
                    && shapes[at + 1] == c.size && shapes[at + 2] == c.loopCount;
        }
    }

    /** The cycles of the section looked at last; a short is told here by its place from the least one on. */
    private static final class DeadCycles {
        private boolean looked;
        private long factor;
        private int rounding;
        private int limit;
        int found;
        /** Of each place the number of its cycle; when all are found, the least places of the cycles. */
        private int[] owners;
        /** Of each cycle, at its least place: its length, and by 2 ^ 32 how many lead to it. */
        private long[] tallies;

        /** Finds the cycles of a section; false if it can have none. */
        boolean look(Section s) {
            if (s == null || s.kind != POLE || s.sort != FIXED || s.rounding == 2) {
                return false;
            }
            if (looked && factor == s.factor(1) && rounding == s.rounding && limit == s.limit) {
                return true;
            }
            looked = true;
            factor = s.factor(1);
            rounding = s.rounding;
            limit = s.limit;
            begin();
            for (int i = 0; i < SHORTS; i++) {
                if (ownerOf(i) == 0) {
                    walk(i);
                }
            }
            gatherFound();
            return true;
        }

        int leastOf(int k) {
            return ownerOf(k) + LEAST_SHORT;
        }

        int lengthOf(int k) {
            return (int) tallyOf(k);
        }

        int basinOf(int k) {
            return (int) (tallyOf(k) >>> 32);
        }

        private void begin() {
            if (owners == null || tallies == null) {
                owners = new int[SHORTS];
                tallies = new long[SHORTS];
            } else {
                Arrays.fill(owners, 0);
                Arrays.fill(tallies, 0L);
            }
        }

        private int ownerOf(int i) {
            return owners == null || i < 0 || i >= owners.length ? 0 : owners[i];
        }

        private void setOwner(int i, int owner) {
            if (owners != null && i >= 0 && i < owners.length) {
                owners[i] = owner;
            }
        }

        private long tallyOf(int i) {
            return tallies == null || i < 0 || i >= tallies.length ? 0 : tallies[i];
        }

        private void setTally(int i, long tally) {
            if (tallies != null && i >= 0 && i < tallies.length) {
                tallies[i] = tally;
            }
        }

        private int next(int i) {
            long number = Shorts.rounded(factor * (i + LEAST_SHORT), rounding);
            return (int) (Shorts.isShort(number) ? number : Shorts.limited(number, limit)) - LEAST_SHORT;
        }

        /** Walks from a place that no walk has met, and gives all that it meets to the cycle at its end. */
        private void walk(int start) {
            int mark = -1 - start;
            int i = start;
            for (int steps = 0; steps < SHORTS && ownerOf(i) == 0; steps++) {
                setOwner(i, mark);
                i = next(i);
            }
            int owner = ownerOf(i) == mark ? newCycle(i) : ownerOf(i);
            int led = 0;
            i = start;
            for (int steps = 0; steps < SHORTS && ownerOf(i) == mark; steps++) {
                setOwner(i, owner);
                led++;
                i = next(i);
            }
            setTally(owner - 1, tallyOf(owner - 1) + ((long) led << 32));
        }

        /** Counts a cycle from one of its places; its number is its least place and one. */
        private int newCycle(int start) {
            int least = start;
            int length = 1;
            int i = next(start);
            for (int steps = 0; steps < SHORTS && i != start; steps++) {
                least = Math.min(least, i);
                length++;
                i = next(i);
            }
            setTally(least, length);
            return least + 1;
        }

        /** Puts the cycles to the front of both rows, by their least places. */
        private void gatherFound() {
            found = 0;
            for (int i = 0; i < SHORTS; i++) {
                if (tallyOf(i) != 0) {
                    setTally(found, tallyOf(i));
                    setOwner(found, i);
                    found++;
                }
            }
        }
    }
}
