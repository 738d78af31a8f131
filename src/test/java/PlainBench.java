import java.math.BigDecimal;
import java.util.ArrayList;
import java.util.List;

/**
 * The document once more, told as plainly as can be, in the machine's own doubles and floats: what
 * RandomRunsTest holds FilterBench against. Values of every sort are held in doubles, which is exact.
 */
final class PlainBench {
    static final int[] FACTORS = {1, 2, 5, 5, 5, 1, 0, 1, 1, 1, 1, 1, 0, 0, 0, 2};

    static final class Sec {
        int number;
        int kind;
        int sort;
        int length;
        double[] c;
        double[] s = new double[4];
        List<Double> past = new ArrayList<>();
        int came = 0;
        double rest = 0;
        int rounding = 0;
        int limit = 0;
        int overs = 0;
        int touches = 0;
        Cha home = null;
        int place = -1;
        Cha inner = null;
    }

    static final class Lo {
        int a;
        int b;
        int n;
        double g;
        List<Double> past = new ArrayList<>();
    }

    static final class Cha {
        int number;
        List<Sec> secs = new ArrayList<>();
        List<Lo> loops = new ArrayList<>();
        List<Double> out = new ArrayList<>();
        Sec holder = null;
    }

    static final class Keep {
        Cha root;
        List<Object> shape;
        List<Object> values;
    }

    final List<Sec> secs = new ArrayList<>();
    final List<Cha> chas = new ArrayList<>();
    final List<Keep> keeps = new ArrayList<>();

    // ---- values ----

    static boolean fits(int sort, long bits) {
        return sort == 0 || sort == 1 && bits >= Integer.MIN_VALUE && bits <= Integer.MAX_VALUE
                || sort == 2 && bits >= -32768 && bits <= 32767;
    }

    static double value(int sort, long bits) {
        return sort == 0 ? Double.longBitsToDouble(bits)
                : sort == 1 ? Float.intBitsToFloat((int) bits) : (double) bits;
    }

    static long bits(int sort, double v) {
        return sort == 0 ? Double.doubleToLongBits(v) : sort == 1 ? Float.floatToIntBits((float) v) : (long) v;
    }

    static double size(int sort, double v) {
        double size = Math.abs(v);
        return sort == 2 && size > 32767 ? 32767 : size;
    }

    static double minus(int sort, double v) {
        return sort == 2 ? (v == -32768 ? 32767 : 0 - v) : -v;
    }

    /** A SUM: each term is {sign, coefficient, value}, or {sign, value}. */
    static double sum(Sec s, double[]... terms) {
        double total = 0;
        for (int i = 0; i < terms.length; i++) {
            double[] t = terms[i];
            double v;
            if (t.length == 2) {
                v = s.sort == 2 ? t[1] * 16384 : t[1];
            } else {
                v = s.sort == 1 ? (double) ((float) t[1] * (float) t[2]) : t[1] * t[2];
            }
            if (i == 0) {
                total = v;
            } else if (s.sort == 1) {
                total = t[0] > 0 ? (float) total + (float) v : (float) total - (float) v;
            } else {
                total = t[0] > 0 ? total + v : total - v;
            }
        }
        return s.sort == 2 ? settle(s, total) : total;
    }

    static double settle(Sec s, double total) {
        double t = s.rounding == 2 ? total + s.rest : total;
        double q = s.rounding == 0 ? Math.floor((t + 8192) / 16384) : t < 0 ? Math.ceil(t / 16384) : Math.floor(t / 16384);
        if (s.rounding == 2) {
            s.rest = t - q * 16384;
        }
        if (q >= -32768 && q <= 32767) {
            return q + 0.0;
        }
        s.overs++;
        return s.limit == 0 ? (q > 0 ? 32767 : -32768) : (double) (short) (long) q;
    }

    static double[] p(double c, double v) {
        return new double[] {1, c, v};
    }

    static double[] m(double c, double v) {
        return new double[] {-1, c, v};
    }

    static double[] v(double v) {
        return new double[] {1, v};
    }

    /** The k-th of the latest n, the eldest first; 0 where there was none. */
    static double latest(List<Double> past, int n, int k) {
        int i = past.size() - n + k;
        return i < 0 ? 0 : past.get(i);
    }

    static double step(Sec s, double x) {
        double[] c = s.c;
        double y;
        switch (s.kind) {
            case 0: return sum(s, p(c[0], x));
            case 1: return s.s[0] = sum(s, p(c[0], x), p(c[1], s.s[0]));
            case 2:
                y = sum(s, p(c[0], x), p(c[1], s.s[0]), p(c[2], s.s[1]), m(c[3], s.s[2]), m(c[4], s.s[3]));
                s.s = new double[] {x, s.s[0], y, s.s[2]};
                return y;
            case 3: {
                double w = sum(s, v(x), m(c[3], s.s[0]), m(c[4], s.s[1]));
                y = sum(s, p(c[0], w), p(c[1], s.s[0]), p(c[2], s.s[1]));
                s.s = new double[] {w, s.s[0], 0, 0};
                return y;
            }
            case 4:
                y = sum(s, p(c[0], x), v(s.s[0]));
                s.s[0] = sum(s, p(c[1], x), m(c[3], y), v(s.s[1]));
                s.s[1] = sum(s, p(c[2], x), m(c[4], y));
                return y;
            case 5: {
                double w = sum(s, v(x), m(c[0], s.s[0]));
                y = sum(s, p(c[0], w), v(s.s[0]));
                s.s[0] = w;
                return y;
            }
            case 6:
                y = latest(s.past, s.length, 0);
                s.past.add(x);
                return y;
            case 7: {
                s.past.add(x);
                double[][] terms = new double[s.length][];
                for (int k = 0; k < s.length; k++) {
                    terms[k] = v(latest(s.past, s.length, k));
                }
                return sum(s, p(c[0], sum(s, terms)));
            }
            case 8:
                y = sum(s, v(x), p(c[0], latest(s.past, s.length, 0)));
                s.past.add(y);
                return y;
            case 9:
                if (x > c[0]) {
                    s.touches++;
                    return c[0];
                }
                if (x < minus(s.sort, c[0])) {
                    s.touches++;
                    return minus(s.sort, c[0]);
                }
                return x;
            case 10:
                if (size(s.sort, x) <= c[0]) {
                    s.touches++;
                    return 0;
                }
                return x;
            case 11:
                y = size(s.sort, x) > s.s[0] ? size(s.sort, x) : sum(s, p(c[0], s.s[0]));
                return s.s[0] = y;
            default:
                throw new IllegalStateException();
        }
    }

    static int push(Cha c, int place, double x) {
        if (place == c.secs.size()) {
            c.out.add(x);
            return 1;
        }
        Sec s = c.secs.get(place);
        int out = 0;
        if (s.kind == 12) {
            boolean goes = s.came % s.length == 0;
            s.came++;
            return goes ? push(c, place + 1, x) : 0;
        }
        if (s.kind == 13 || s.kind == 14) {
            for (int i = 0; i < s.length; i++) {
                out += push(c, place + 1, i == 0 || s.kind == 14 ? x : 0.0);
            }
            return out;
        }
        for (Lo l : c.loops) {
            if (l.a == place) {
                x = sum(s, v(x), p(l.g, latest(l.past, l.n, 0)));
            }
        }
        double y;
        if (s.kind == 15) {
            double made = 0;
            if (s.inner != null) {
                push(s.inner, 0, x);
                made = s.inner.out.get(s.inner.out.size() - 1);
            }
            y = sum(s, p(s.c[0], x), p(s.c[1], made));
        } else {
            y = step(s, x);
        }
        for (Lo l : c.loops) {
            if (l.b == place) {
                l.past.add(y);
            }
        }
        return push(c, place + 1, y);
    }

    // ---- the face ----

    Sec sec(int s) {
        return s >= 0 && s < secs.size() ? secs.get(s) : null;
    }

    Cha cha(int c) {
        return c >= 0 && c < chas.size() ? chas.get(c) : null;
    }

    int section(int kind, int sort, int length) {
        if (secs.size() == 60 || kind < 0 || kind > 15 || sort < 0 || sort > 2) {
            return -1;
        }
        if ((kind == 6 || kind == 8) && (length < 1 || length > 64) || kind == 7 && (length < 1 || length > 32)
                || kind >= 12 && kind <= 14 && (length < 2 || length > 8)) {
            return -1;
        }
        Sec s = new Sec();
        s.number = secs.size();
        s.kind = kind;
        s.sort = sort;
        s.length = length;
        s.c = new double[FACTORS[kind]];
        secs.add(s);
        return s.number;
    }

    boolean coefficient(int s, int k, long bits) {
        Sec x = sec(s);
        if (x == null || k < 0 || k >= x.c.length || !fits(x.sort, bits)) {
            return false;
        }
        x.c[k] = value(x.sort, bits);
        return true;
    }

    boolean ratio(int s, int k, int num, int den) {
        Sec x = sec(s);
        if (x == null || k < 0 || k >= x.c.length || den == 0) {
            return false;
        }
        double d = (double) num / den;
        if (x.sort == 0) {
            x.c[k] = d;
        } else if (x.sort == 1) {
            x.c[k] = (float) d;
        } else {
            double times = x.kind == 9 || x.kind == 10 ? 1 : 16384;
            BigDecimal[] parts = BigDecimal.valueOf(num).multiply(BigDecimal.valueOf((long) times))
                    .divideAndRemainder(BigDecimal.valueOf(den));
            long whole = parts[0].longValueExact();
            int half = parts[1].abs().multiply(BigDecimal.valueOf(2)).compareTo(BigDecimal.valueOf(den).abs());
            if (half > 0 || half == 0 && whole % 2 != 0) {
                whole += (num < 0) == (den < 0) ? 1 : -1;
            }
            if (!fits(2, whole)) {
                return false;
            }
            x.c[k] = whole;
        }
        return true;
    }

    boolean rule(int s, int rounding, int limit) {
        Sec x = sec(s);
        if (x == null || x.sort != 2 || rounding < 0 || rounding > 2 || limit < 0 || limit > 1) {
            return false;
        }
        x.rounding = rounding;
        x.limit = limit;
        return true;
    }

    int chain() {
        if (chas.size() == 20) {
            return -1;
        }
        Cha c = new Cha();
        c.number = chas.size();
        chas.add(c);
        return c.number;
    }

    int add(int c, int s) {
        Cha x = cha(c);
        Sec y = sec(s);
        if (x == null || y == null || y.home != null || x.holder != null || x.secs.size() == 10) {
            return -1;
        }
        if (x.secs.size() > 0 && x.secs.get(0).sort != y.sort) {
            return -1;
        }
        int spreaders = 0;
        for (Sec z : x.secs) {
            spreaders += z.kind == 13 || z.kind == 14 ? 1 : 0;
        }
        if (spreaders == 2 && (y.kind == 13 || y.kind == 14)) {
            return -1;
        }
        y.home = x;
        y.place = x.secs.size();
        x.secs.add(y);
        return y.place;
    }

    static boolean plain(Cha c, int a, int b) {
        for (int i = a; i <= b; i++) {
            int kind = c.secs.get(i).kind;
            if (kind >= 12 && kind <= 14) {
                return false;
            }
        }
        return true;
    }

    int loop(int c, int a, int b, int n, long bits) {
        Cha x = cha(c);
        if (x == null || x.holder != null || x.loops.size() == 3 || a < 0 || a > b || b >= x.secs.size()) {
            return -1;
        }
        if (!plain(x, a, b) || n < 1 || n > 64 || !fits(x.secs.get(0).sort, bits)) {
            return -1;
        }
        Lo l = new Lo();
        l.a = a;
        l.b = b;
        l.n = n;
        l.g = value(x.secs.get(0).sort, bits);
        x.loops.add(l);
        return x.loops.size();
    }

    boolean within(int s, int c) {
        Sec x = sec(s);
        Cha y = cha(c);
        if (x == null || y == null || x.kind != 15 || x.inner != null || x.home == null || y.holder != null) {
            return false;
        }
        if (y.secs.isEmpty() || y.number >= x.home.number || y.secs.get(0).sort != x.sort) {
            return false;
        }
        if (!plain(y, 0, y.secs.size() - 1)) {
            return false;
        }
        x.inner = y;
        y.holder = x;
        return true;
    }

    int feed(int c, long bits) {
        Cha x = cha(c);
        if (x == null || x.secs.isEmpty() || x.holder != null || !fits(x.secs.get(0).sort, bits)) {
            return -1;
        }
        return push(x, 0, value(x.secs.get(0).sort, bits));
    }

    int run(int c, int n, int seed) {
        Cha x = cha(c);
        if (x == null || x.secs.isEmpty() || x.holder != null || n < 1 || n > 100) {
            return -1;
        }
        int out = 0;
        for (int i = 0; i < n; i++) {
            short low = (short) seed;
            out += push(x, 0, x.secs.get(0).sort == 2 ? low : low / 256.0);
            seed = seed * 1103515245 + 12345;
        }
        return out;
    }

    long output(int c, int i) {
        Cha x = cha(c);
        if (x == null || i < 0 || i >= x.out.size() || i < x.out.size() - 400) {
            return 0;
        }
        return bits(x.secs.get(0).sort, x.out.get(i));
    }

    static int cells(Sec s) {
        switch (s.kind) {
            case 1: case 5: case 11: case 12: return 1;
            case 2: return 4;
            case 3: case 4: return 2;
            case 6: case 7: case 8: return s.length;
            default: return 0;
        }
    }

    static long cell(Sec s, int k) {
        if (s.kind == 12) {
            return s.came % s.length;
        }
        return bits(s.sort, s.kind >= 6 && s.kind <= 8 ? latest(s.past, s.length, k) : s.s[k]);
    }

    long state(int s, int k) {
        Sec x = sec(s);
        if (x == null) {
            return 0;
        }
        if (k == 100 && x.sort == 2) {
            return (long) x.rest;
        }
        return k < 0 || k >= cells(x) ? 0 : cell(x, k);
    }

    int about(int s, int what) {
        Sec x = sec(s);
        if (x == null) {
            return -1;
        }
        switch (what) {
            case 0: return x.kind;
            case 1: return x.sort;
            case 2: return x.length;
            case 3: return x.home == null ? -1 : x.home.number;
            case 4: return x.place;
            case 5: return x.overs;
            case 6: return x.touches;
            case 7: return x.inner == null ? -1 : x.inner.number;
            case 8: return x.rounding;
            case 9: return x.limit;
            default: return -1;
        }
    }

    long told(int s, int k) {
        Sec x = sec(s);
        return x == null || k < 0 || k >= x.c.length ? 0 : bits(x.sort, x.c[k]);
    }

    boolean reset(int c) {
        Cha x = cha(c);
        if (x == null) {
            return false;
        }
        x.out.clear();
        for (Lo l : x.loops) {
            l.past.clear();
        }
        for (Sec s : x.secs) {
            s.s = new double[4];
            s.past.clear();
            s.came = 0;
            s.rest = 0;
            if (s.inner != null) {
                reset(s.inner.number);
            }
        }
        return true;
    }

    static void shape(Cha c, List<Object> to) {
        to.add(c);
        to.add(c.secs.size());
        to.add(c.loops.size());
        for (Sec s : c.secs) {
            if (s.inner != null) {
                to.add(s);
                shape(s.inner, to);
            }
        }
    }

    static void values(Cha c, List<Object> to) {
        for (Sec s : c.secs) {
            to.add((long) s.rest);
            for (int k = 0; k < cells(s); k++) {
                to.add(cell(s, k));
            }
            if (s.inner != null) {
                values(s.inner, to);
            }
        }
        for (Lo l : c.loops) {
            for (int k = 0; k < l.n; k++) {
                to.add(bits(c.secs.get(0).sort, latest(l.past, l.n, k)));
            }
        }
    }

    static int bringBack(Cha c, List<Object> from, int at) {
        for (Sec s : c.secs) {
            s.rest = (Long) from.get(at++);
            s.past.clear();
            for (int k = 0; k < cells(s); k++) {
                long bits = (Long) from.get(at++);
                if (s.kind == 12) {
                    s.came = (int) bits;
                } else if (s.kind >= 6 && s.kind <= 8) {
                    s.past.add(value(s.sort, bits));
                } else {
                    s.s[k] = value(s.sort, bits);
                }
            }
            if (s.inner != null) {
                at = bringBack(s.inner, from, at);
            }
        }
        for (Lo l : c.loops) {
            l.past.clear();
            for (int k = 0; k < l.n; k++) {
                l.past.add(value(c.secs.get(0).sort, (Long) from.get(at++)));
            }
        }
        return at;
    }

    int keep(int c) {
        Cha x = cha(c);
        if (x == null || keeps.size() == 8) {
            return -1;
        }
        Keep k = new Keep();
        k.root = x;
        k.shape = new ArrayList<>();
        shape(x, k.shape);
        k.values = new ArrayList<>();
        values(x, k.values);
        keeps.add(k);
        return keeps.size() - 1;
    }

    Keep fitting(int k) {
        if (k < 0 || k >= keeps.size()) {
            return null;
        }
        List<Object> now = new ArrayList<>();
        shape(keeps.get(k).root, now);
        return now.equals(keeps.get(k).shape) ? keeps.get(k) : null;
    }

    boolean back(int k) {
        Keep x = fitting(k);
        if (x == null) {
            return false;
        }
        bringBack(x.root, x.values, 0);
        return true;
    }

    boolean same(int k) {
        Keep x = fitting(k);
        if (x == null) {
            return false;
        }
        List<Object> now = new ArrayList<>();
        values(x.root, now);
        return now.equals(x.values);
    }

    static BigDecimal exact(Sec s, int k) {
        BigDecimal d = new BigDecimal(s.c[k]);
        return s.sort == 2 ? d.divide(BigDecimal.valueOf(16384)) : d;
    }

    int poles(int s) {
        Sec x = sec(s);
        if (x == null || x.kind < 1 || x.kind > 5) {
            return -1;
        }
        int[] looked = x.kind == 1 ? new int[] {1} : x.kind == 5 ? new int[] {0} : new int[] {3, 4};
        for (int k : looked) {
            if (Double.isNaN(x.c[k]) || Double.isInfinite(x.c[k])) {
                return 0;
            }
        }
        BigDecimal one = BigDecimal.ONE;
        int room;
        if (looked.length == 1) {
            room = one.compareTo(exact(x, looked[0]).abs());
        } else {
            BigDecimal a = exact(x, 3);
            BigDecimal b = exact(x, 4);
            room = Math.min(one.compareTo(b.abs()), one.add(b).compareTo(a.abs()));
        }
        return room > 0 ? 1 : room == 0 ? 2 : 0;
    }

    /** The dead cycles of a section, each {least, length, basin}; null if it can have none. */
    List<int[]> dead(int s) {
        Sec x = sec(s);
        if (x == null || x.kind != 1 || x.sort != 2 || x.rounding == 2) {
            return null;
        }
        int[] next = new int[65536];
        int[] led = new int[65536];
        int overs = x.overs;
        for (int i = 0; i < 65536; i++) {
            next[i] = (int) sum(x, p(x.c[0], 0), p(x.c[1], i - 32768)) + 32768;
            led[next[i]]++;
        }
        x.overs = overs;
        int[] row = new int[65536];
        int count = 0;
        for (int i = 0; i < 65536; i++) {
            if (led[i] == 0) {
                row[count++] = i;
            }
        }
        for (int i = 0; i < count; i++) {
            if (--led[next[row[i]]] == 0) {
                row[count++] = next[row[i]];
            }
        }
        int[] owner = new int[65536];
        List<int[]> found = new ArrayList<>();
        for (int i = 0; i < 65536; i++) {
            if (led[i] > 0 && owner[i] == 0) {
                int length = 0;
                for (int j = i; owner[j] == 0; j = next[j]) {
                    owner[j] = found.size() + 1;
                    length++;
                }
                found.add(new int[] {i - 32768, length, length});
            }
        }
        for (int i = count - 1; i >= 0; i--) {
            owner[row[i]] = owner[next[row[i]]];
            found.get(owner[row[i]] - 1)[2]++;
        }
        return found;
    }

    int cycles(int s) {
        List<int[]> found = dead(s);
        return found == null ? -1 : found.size();
    }

    int cycle(int s, int k, int what) {
        List<int[]> found = dead(s);
        return found == null || k < 0 || k >= found.size() || what < 0 || what > 2 ? 0 : found.get(k)[what];
    }

    /** A coefficient in another sort; NaN told as a coefficient of FIXED means that there is none. */
    static double translated(double c, int from, int to, boolean whole) {
        double meant = from == 2 && !whole ? c / 16384 : c;
        if (to == 0) {
            return meant;
        }
        if (to == 1) {
            return (float) meant;
        }
        double near = Math.rint(whole ? meant : meant * 16384) + 0.0;
        return near >= -32768 && near <= 32767 ? near : Double.NaN;
    }

    static boolean translatable(Cha c, int sort, int[] counts) {
        counts[1]++;
        for (Sec s : c.secs) {
            counts[0]++;
            for (double d : s.c) {
                if (sort == 2 && Double.isNaN(translated(d, s.sort, 2, s.kind == 9 || s.kind == 10))) {
                    return false;
                }
            }
            if (s.inner != null && !translatable(s.inner, sort, counts)) {
                return false;
            }
        }
        for (Lo l : c.loops) {
            if (sort == 2 && Double.isNaN(translated(l.g, c.secs.get(0).sort, 2, false))) {
                return false;
            }
        }
        return true;
    }

    int convert(int c, int sort) {
        Cha x = cha(c);
        int[] counts = new int[2];
        if (x == null || sort < 0 || sort > 2 || x.secs.isEmpty() || x.holder != null) {
            return -1;
        }
        if (!translatable(x, sort, counts) || secs.size() + counts[0] > 60 || chas.size() + counts[1] > 20) {
            return -1;
        }
        return anew(x, sort);
    }

    int anew(Cha x, int sort) {
        List<Integer> made = new ArrayList<>();
        List<Integer> inners = new ArrayList<>();
        for (Sec s : x.secs) {
            inners.add(s.inner == null ? -1 : anew(s.inner, sort));
            int t = section(s.kind, sort, s.length);
            made.add(t);
            for (int k = 0; k < s.c.length; k++) {
                secs.get(t).c[k] = translated(s.c[k], s.sort, sort, s.kind == 9 || s.kind == 10);
            }
            if (s.sort == 2 && sort == 2) {
                rule(t, s.rounding, s.limit);
            }
        }
        int c = chain();
        for (int i = 0; i < made.size(); i++) {
            add(c, made.get(i));
            if (inners.get(i) >= 0) {
                within(made.get(i), inners.get(i));
            }
        }
        for (Lo l : x.loops) {
            loop(c, l.a, l.b, l.n, bits(sort, translated(l.g, x.secs.get(0).sort, sort, false)));
        }
        return c;
    }

    long measure(int c, int what) {
        Cha x = cha(c);
        if (x == null || x.secs.isEmpty() || what < 0 || what > 2) {
            return 0;
        }
        int sort = x.secs.get(0).sort;
        List<Double> kept = x.out.subList(Math.max(0, x.out.size() - 400), x.out.size());
        double greatest = 0;
        List<Double> signed = new ArrayList<>();
        int row = 0;
        int longest = 0;
        for (double d : kept) {
            if (size(sort, d) > greatest) {
                greatest = size(sort, d);
            }
            if (d > 0 || d < 0) {
                signed.add(d);
            }
            row = d == 0 ? row + 1 : 0;
            longest = Math.max(longest, row);
        }
        int changes = 0;
        for (int i = 1; i < signed.size(); i++) {
            changes += (signed.get(i) > 0) != (signed.get(i - 1) > 0) ? 1 : 0;
        }
        return what == 0 ? bits(sort, greatest) : what == 1 ? changes : longest;
    }

    int count(int what) {
        return what == 0 ? secs.size() : what == 1 ? chas.size() : what == 2 ? keeps.size() : -1;
    }

    int chain(int c, int what) {
        Cha x = cha(c);
        if (x == null) {
            return -1;
        }
        switch (what) {
            case 0: return x.secs.size();
            case 1: return x.loops.size();
            case 2: return x.out.size();
            case 3: return x.holder == null ? -1 : x.holder.number;
            case 4: return x.secs.isEmpty() ? -1 : x.secs.get(0).sort;
            default: return -1;
        }
    }
}
