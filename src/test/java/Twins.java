import java.util.ArrayList;
import java.util.List;

/**
 * Whether a call changes nothing: of two benches furnished alike one gets that call more, and both must
 * tell the same of all that there is, and go on alike.
 */
final class Twins {

    interface Maker {
        void make(Bench x);
    }

    interface Call {
        long on(Bench x);
    }

    interface Ask {
        boolean on(Bench x);
    }

    private final Check check;
    private final String what;
    private final Maker maker;
    private final Call call;
    private final long due;

    private Twins(Check check, String what, Maker maker, Call call, long due) {
        this.check = check;
        this.what = what;
        this.maker = maker;
        this.call = call;
        this.due = due;
    }

    /** The call answers NONE, and nothing has changed by it. */
    static void none(Check check, String what, Maker maker, Call call) {
        new Twins(check, what, maker, call, FilterBench.NONE).compare();
    }

    /** The call answers 0, and nothing has changed by it. */
    static void zero(Check check, String what, Maker maker, Call call) {
        new Twins(check, what, maker, call, 0).compare();
    }

    /** The call answers false, and nothing has changed by it. */
    static void no(Check check, String what, Maker maker, Ask ask) {
        new Twins(check, what, maker, x -> ask.on(x) ? 1 : 0, 0).compare();
    }

    private void compare() {
        Bench x = new Bench();
        maker.make(x);
        // A look takes two calls at most.
        int room = (Bench.MOST_CALLS - x.calls() - 1) / 2;
        List<Call> looks = looks();
        for (int from = 0; from < looks.size(); from += room) {
            compare(looks.subList(from, Math.min(from + room, looks.size())));
        }
        List<Call> later = later();
        compare(later.subList(0, Math.min(room, later.size())));
    }

    /** Two benches, furnished alike; both are looked at in the same way. */
    private void compare(List<Call> looks) {
        Bench refused = new Bench();
        Bench plain = new Bench();
        maker.make(refused);
        maker.make(plain);
        check.due(what, call.on(refused), due);
        for (int i = 0; i < looks.size(); i++) {
            long got = looks.get(i).on(refused);
            long want = looks.get(i).on(plain);
            if (got != want) {
                check.fail(what + " changed something: look " + i + " told " + got + ", ahead of it " + want);
                return;
            }
        }
    }

    /** Looks at all that there is, none of which changes anything. */
    private List<Call> looks() {
        Bench x = new Bench();
        maker.make(x);
        List<Call> looks = new ArrayList<>();
        for (int w = 0; w < 3; w++) {
            int which = w;
            looks.add(y -> y.count(which));
        }
        int sections = x.count(0);
        for (int s = 0; s < sections; s++) {
            lookAtSection(looks, s, x.about(s, 0), x.about(s, 2));
        }
        int chains = x.count(1);
        for (int c = 0; c < chains; c++) {
            lookAtChain(looks, c);
        }
        int kept = x.count(2);
        for (int k = 0; k < kept; k++) {
            int which = k;
            looks.add(y -> y.same(which) ? 1 : 0);
        }
        return looks;
    }

    private static void lookAtSection(List<Call> looks, int s, int kind, int length) {
        for (int w = 0; w < 10; w++) {
            int which = w;
            looks.add(y -> y.about(s, which));
        }
        for (int k = 0; k < 5; k++) {
            int which = k;
            looks.add(y -> y.told(s, which));
        }
        int cells = kind >= 6 && kind <= 8 ? length : 4;
        for (int k = 0; k < cells; k++) {
            int which = k;
            looks.add(y -> y.state(s, which));
        }
        looks.add(y -> y.state(s, 100));
        looks.add(y -> y.poles(s));
    }

    private static void lookAtChain(List<Call> looks, int c) {
        for (int w = 0; w < 5; w++) {
            int which = w;
            looks.add(y -> y.chain(c, which));
        }
        for (int w = 0; w < 3; w++) {
            int which = w;
            looks.add(y -> y.measure(c, which));
        }
        for (int b = 1; b <= 4; b++) {
            int before = b;
            looks.add(y -> y.output(c, y.chain(c, 2) - before));
        }
        looks.add(y -> y.output(c, 0));
    }

    /** What comes later: samples, what was kept, and the next numbers. */
    private List<Call> later() {
        Bench x = new Bench();
        maker.make(x);
        int chains = x.count(1);
        int kept = x.count(2);
        List<Call> later = new ArrayList<>();
        later.add(y -> y.section(0, 0, 0));
        later.add(y -> y.chain());
        for (int c = 0; c < chains; c++) {
            int chain = c;
            later.add(y -> y.run(chain, 9, 12345 + chain));
            lookAtChain(later, chain);
        }
        for (int k = 0; k < kept; k++) {
            int which = k;
            later.add(y -> y.back(which) ? 1 : 0);
        }
        for (int c = 0; c < chains; c++) {
            int chain = c;
            later.add(y -> y.run(chain, 9, 54321));
            later.add(y -> y.measure(chain, 0));
        }
        later.add(y -> y.keep(0));
        return later;
    }
}
