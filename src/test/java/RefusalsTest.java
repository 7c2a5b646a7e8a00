import java.util.ArrayList;
import java.util.List;

/**
 * Section VI: "what is refused changes nothing", and "of several refusals the one that is named
 * first in a method's words is answered". Each refused call is made on one of two rivers that are
 * alike and have something of everything; behind it both are asked everything, run to the end,
 * and must answer the same, but for the count of the host's refusals.
 */
final class RefusalsTest {
    private static final Due DUE = new Due("RefusalsTest");
    private static final int LEAST = Integer.MIN_VALUE, MOST = Integer.MAX_VALUE;
    private static final int NONE = IceOut.NONE, FULL = IceOut.FULL, STARTED = IceOut.STARTED, UNABLE = IceOut.UNABLE;
    private static final int NOTHING = IceOut.NOTHING, CAST = IceOut.CAST, PLACE = IceOut.PLACE, SIZE = IceOut.SIZE;

    /** TAPES of the rivers: a row of each sort, a STATE without HARM, and nothing. */
    private static final int BYTES = 0, SHORTS = 1, INTS = 2, LONGS = 3, STATE = 4, EMPTY = 5;

    interface Call {
        long on(IceOut x);
    }

    interface Makes {
        IceOut one();
    }

    public static void main(String[] args) {
        theTwinsAreAlike();
        begin();
        cells();
        towns();
        seas();
        weathers();
        gaugesEyesCrews();
        rules();
        faults();
        acts();
        runs();
        looks();
        mends();
        plans();
        trials();
        taken();
        marks();
        tapes();
        states();
        puts();
        ats();
        copies();
        full();
        DUE.end();
    }

    // ---- the rivers

    /** At HOUR 0: acts wait, some are TAKEN, a STATE is kept. */
    private static IceOut fresh() {
        IceOut x = new IceOut();
        x.begin(5);
        x.cell(0, 0, 420, 3, 30);
        x.cell(1, 3, 300, 4, 25);
        x.cell(2, 1, 250, 5, 20);
        x.cell(3, 2, 120, 4, 40);
        x.cell(4, 4, 60, 9, 8);
        for (int i = 0; i < 5; i++) {
            x.fill(i, 90 + 40 * i, 12 * i);
            x.town(i, 30 * i + 40, 110 * (5 - i), 25 * i);
            x.gauge(i, i - 1);
        }
        x.sea(15);
        x.eye(2);
        x.eye(3);
        x.crews(3);
        Due.weather(x, 0, new int[] {60, 300, 10, 400, 35}, new int[] {-9, 6, -12, 15, 2});
        Due.weather(x, 1, new int[] {900, 20}, new int[] {20, -20});
        Due.weather(x, 3, new int[] {0, 0, 5000, 0}, new int[] {1, 2, 3, 4});
        Due.rule(x, 2, 4, 1, 1, 30, 0);
        Due.rule(x, 0, 3, 4, 4, 5, 1, 7, 0);
        Due.rule(x, 5, 2, 3, 3, 8, 4, 6, 6, 0);
        x.plan(2, 3, 1);
        x.plan(9, 4, 1);
        x.plan(3, 5, 0);
        x.mark(0, 300, 900);
        x.mark(4, 0, 400);
        x.taken(5);
        x.act(2, 0);
        x.act(6, 3);
        x.act(0, 4);
        x.act(5, 1);
        Due.row(x, BYTES, 1, 4, 2, 8, 8, 0);
        Due.row(x, SHORTS, 2, 300, -300, 5);
        Due.row(x, INTS, 3, 5, 70000, 60, 7);
        Due.row(x, LONGS, 4, Long.MAX_VALUE, -1, 9);
        x.keep(STATE);
        return x;
    }

    /** Six HOURS later, with MENDS told. */
    private static IceOut later() {
        IceOut x = fresh();
        x.run(4);
        x.mend(2, 2, 333);
        x.run(2);
        x.mend(2, 5, 444);
        x.act(1, 3);
        x.act(2, 2);
        x.act(2, 2);
        x.act(2, 1);
        x.act(0, 2);
        return x;
    }

    /** All that can be asked of a river, the last of it by running it on and taking it apart. */
    private static List<Long> asked(IceOut x) {
        List<Long> all = new ArrayList<>();
        look(x, all);
        int sets = 1 << x.count(6);
        for (int w = 0; w < 4; w++) {
            all.add((long) x.trial(sets - 1, w, 12));
            all.add((long) x.fits(w, 9));
        }
        all.add((long) x.worst(1, 4, 20));
        all.add((long) x.best(2, 4));
        x.run(11);
        look(x, all);
        all.add((long) x.back(STATE));
        look(x, all);
        x.run(5);
        x.again();
        x.act(2, 1);
        x.run(7);
        look(x, all);
        for (int i = 0; i < x.count(0); i++) {
            all.add((long) x.gauge(i, -1));
            all.add((long) x.eye(i));
        }
        x.again();
        all.add((long) x.crews(1));
        all.add((long) x.sea(0));
        all.add((long) x.taken(1));
        all.add((long) x.ruleless());
        all.add((long) x.planless());
        for (int d = 0; d < 6; d++) {
            all.add((long) x.clear(d));
        }
        all.add((long) x.count(9));
        return all;
    }

    private static void look(IceOut x, List<Long> all) {
        for (int i = 0; i < x.count(0); i++) {
            for (int what = 1; what <= 10; what++) {
                all.add((long) x.now(i, what));
            }
            all.add((long) x.crest(i, 0) * 1000 + x.crest(i, 1));
        }
        for (int what = 0; what <= 8; what++) {
            all.add((long) x.count(what));
        }
        for (int r = 0; r < x.count(5); r++) {
            all.add((long) x.came(r) * 2 + x.holds(r));
        }
        for (int h = 1; h <= 6; h++) {
            all.add((long) x.reading(2, h, x.count(1) + 1));
        }
        int[] lengths = {5, 3, 4, 3};
        for (int d = 0; d < 4; d++) {
            for (int i = 0; i < lengths[d]; i++) {
                all.add(Due.thrownBy(x, d, i) == 0 ? x.at(d, i) : -77);
            }
        }
    }

    private static void theTwinsAreAlike() {
        same("two fresh ones", asked(fresh()), asked(fresh()), 0);
        same("two later ones", asked(later()), asked(later()), 0);
        // The asking finds what isn't the same: each of these would be a trace of a refused call.
        Call[] traces = {
            x -> x.gauge(0, 0), x -> x.gauge(1, 5), x -> x.eye(2), x -> x.eye(4), x -> x.crews(4),
            x -> x.act(2, 0), x -> x.plan(1, 2, 0), x -> x.planless(), x -> x.mark(0, 0, 9), x -> x.taken(2),
            x -> x.tape(EMPTY, 1, 1), x -> x.keep(EMPTY), x -> x.keep(STATE), x -> x.clear(BYTES),
            x -> x.put(SHORTS, 1, 4), x -> x.ruleless(), x -> x.run(1), x -> x.mend(2, 4, 9), x -> x.again(),
            x -> x.begin(5), x -> x.put(0, 9, 9), x -> Due.rule(x, 2, 1, 4, 20, 0),
        };
        for (int k = 0; k < traces.length; k++) {
            IceOut x = later();
            traces[k].on(x);
            DUE.is("trace " + k + " is found", asked(x).equals(asked(later())) ? 1 : 0, 0);
        }
    }

    private static void same(String what, List<Long> got, List<Long> want, int counted) {
        DUE.is(what + ": as many answers", got.size(), want.size());
        int last = Math.min(got.size(), want.size()) - 1;
        for (int k = 0; k < last; k++) {
            if (!got.get(k).equals(want.get(k))) {
                DUE.is(what + ": then answer " + k, got.get(k), want.get(k));
            }
        }
        DUE.is(what + ": the host's refusals", got.get(last) - counted, want.get(last));
    }

    /** On both rivers. */
    private static void refused(String what, int due, Call call) {
        refusedOn("fresh: " + what, due, call, RefusalsTest::fresh);
        refusedOn("later: " + what, due, call, RefusalsTest::later);
    }

    private static void refusedOn(String what, int due, Call call, Makes river) {
        IceOut x = river.one();
        IceOut twin = river.one();
        DUE.is(what, call.on(x), due);
        same(what, asked(x), asked(twin), due <= NOTHING && due >= IceOut.THROWN ? 1 : 0);
    }

    private static String told(int[] w) {
        return java.util.Arrays.toString(w);
    }

    // ---- promises 2 to 7

    private static void begin() {
        int[] wrong = {1, 25, 0, -1, LEAST, MOST};
        for (int r : wrong) {
            refused("begin(" + r + ")", NONE, x -> x.begin(r));
        }
    }

    private static void cells() {
        int[][] wrong = {
            {-1, 0, 7, 7, 7}, {5, 0, 7, 7, 7}, {LEAST, 0, 7, 7, 7}, {MOST, 0, 7, 7, 7}, {2, -1, 7, 7, 7},
            {2, 5, 7, 7, 7}, {2, 0, -1, 7, 7}, {2, 0, 2001, 7, 7}, {2, 0, 7, 0, 7}, {2, 0, 7, -1, 7},
            {2, 0, 7, 101, 7}, {2, 0, 7, 7, 0}, {2, 0, 7, 7, 101}, {2, LEAST, 7, 7, 7}, {2, 0, MOST, 7, 7},
            {2, 0, 7, LEAST, 7}, {2, 0, 7, 7, MOST},
        };
        for (int[] w : wrong) {
            refused("cell" + told(w), NONE, x -> x.cell(w[0], w[1], w[2], w[3], w[4]));
        }
        refusedOn("cell, STARTED", STARTED, x -> x.cell(2, 0, 7, 7, 7), RefusalsTest::later);
        int[][] fills = {
            {-1, 5, 5}, {5, 5, 5}, {2, -1, 5}, {2, 200001, 5}, {2, 5, -1}, {2, 5, 201}, {LEAST, 5, 5},
            {2, MOST, 5}, {2, 5, LEAST},
        };
        for (int[] w : fills) {
            refused("fill" + told(w), NONE, x -> x.fill(w[0], w[1], w[2]));
        }
        refusedOn("fill, STARTED", STARTED, x -> x.fill(2, 5, 5), RefusalsTest::later);
    }

    private static void towns() {
        int[][] wrong = {
            {-1, 5, 5, 5}, {5, 5, 5, 5}, {2, -1, 5, 5}, {2, 10000, 5, 5}, {2, 5, -1, 5}, {2, 5, 4001, 5},
            {2, 5, 5, -1}, {2, 5, 5, 100001}, {2, LEAST, 5, 5}, {2, 5, MOST, 5}, {2, 5, 5, LEAST},
        };
        for (int[] w : wrong) {
            refused("town" + told(w), NONE, x -> x.town(w[0], w[1], w[2], w[3]));
        }
        refusedOn("town, STARTED", STARTED, x -> x.town(2, 5, 5, 5), RefusalsTest::later);
    }

    private static void seas() {
        int[] wrong = {-1, 4001, LEAST, MOST};
        for (int level : wrong) {
            refused("sea(" + level + ")", NONE, x -> x.sea(level));
        }
        refusedOn("sea, STARTED", STARTED, x -> x.sea(9), RefusalsTest::later);
    }

    private static void weathers() {
        int[][] none = {
            {-1, INTS, BYTES, 2}, {4, INTS, BYTES, 2}, {0, -1, BYTES, 2}, {0, 6, BYTES, 2}, {0, INTS, -1, 2},
            {0, INTS, 6, 2}, {0, INTS, BYTES, 0}, {0, INTS, BYTES, 65}, {0, INTS, BYTES, LEAST},
            {4, EMPTY, EMPTY, 2}, {0, EMPTY, 6, 2}, {0, EMPTY, EMPTY, 65}, {0, BYTES, BYTES, 0},
        };
        for (int[] w : none) {
            refused("weather" + told(w), NONE, x -> x.weather(w[0], w[1], w[2], w[3]));
        }
        int[][] nothing = {
            {EMPTY, BYTES, 2}, {INTS, EMPTY, 2}, {EMPTY, EMPTY, 2}, {BYTES, EMPTY, 2}, {EMPTY, INTS, 64},
            {STATE, EMPTY, 2},
        };
        for (int[] w : nothing) {
            refused("weather, NOTHING" + told(w), NOTHING, x -> x.weather(0, w[0], w[1], w[2]));
        }
        int[][] cast = {
            {BYTES, BYTES, 2}, {SHORTS, BYTES, 2}, {LONGS, BYTES, 2}, {STATE, BYTES, 2}, {INTS, SHORTS, 2},
            {INTS, INTS, 2}, {INTS, LONGS, 2}, {INTS, STATE, 2}, {BYTES, INTS, 64},
        };
        for (int[] w : cast) {
            refused("weather, CAST" + told(w), CAST, x -> x.weather(0, w[0], w[1], w[2]));
        }
        int[] place = {5, 6, 64};
        for (int n : place) {
            refused("weather, PLACE " + n, PLACE, x -> x.weather(0, INTS, BYTES, n));
        }
        // The second INFLOW is 70000.
        refused("weather, UNABLE", UNABLE, x -> x.weather(0, INTS, BYTES, 2));
        refused("weather, UNABLE", UNABLE, x -> x.weather(3, INTS, BYTES, 4));
    }

    // ---- promises 8 to 13

    private static void gaugesEyesCrews() {
        int[][] wrong = {{-1, 0}, {5, 0}, {2, -2}, {2, 7}, {LEAST, -1}, {2, LEAST}, {2, MOST}};
        for (int[] w : wrong) {
            refused("gauge" + told(w), NONE, x -> x.gauge(w[0], w[1]));
        }
        int[] cells = {-1, 5, LEAST, MOST};
        for (int i : cells) {
            refused("eye(" + i + ")", NONE, x -> x.eye(i));
        }
        int[] crews = {0, 7, -1, LEAST, MOST};
        for (int n : crews) {
            refused("crews(" + n + ")", NONE, x -> x.crews(n));
        }
    }

    private static void rules() {
        int[][] none = {
            {-1, 2, BYTES}, {7, 2, BYTES}, {2, -1, BYTES}, {2, 5, BYTES}, {3, 2, BYTES}, {4, 4, BYTES},
            {2, 2, -1}, {2, 2, 6}, {3, 0, EMPTY}, {7, 2, STATE}, {2, 5, EMPTY}, {LEAST, 2, BYTES},
            {2, MOST, BYTES}, {2, 2, LEAST},
        };
        for (int[] w : none) {
            refused("rule" + told(w), NONE, x -> x.rule(w[0], w[1], w[2]));
        }
        refused("rule, NOTHING", NOTHING, x -> x.rule(2, 2, EMPTY));
        int[] cast = {SHORTS, INTS, LONGS, STATE};
        for (int d : cast) {
            refused("rule, CAST of " + d, CAST, x -> x.rule(2, 2, d));
        }
    }

    /** TAPE 0 is no other behind it, as it is told to both. */
    private static void faults() {
        long[][] words = {{}, {0}, {9, 0}, {4, 1, 6, 0}, {4, 1}, {4, 1, 4, 1, 0}, {1, 5, 0, 0}, {4, -1, 0}, {3}};
        int[] places = {0, 0, 0, 2, 2, 4, 0, 0, 0};
        for (int k = 0; k < words.length; k++) {
            long[] w = words[k];
            Makes river = () -> {
                IceOut x = later();
                Due.row(x, BYTES, 1, w);
                return x;
            };
            refusedOn("rule, a fault " + k, -100 - places[k], x -> x.rule(2, 2, BYTES), river);
        }
    }

    private static void acts() {
        int[][] wrong = {
            {-1, 2}, {7, 2}, {2, -1}, {2, 5}, {3, 2}, {4, 0}, {3, 5}, {LEAST, 2}, {MOST, 2}, {2, LEAST},
            {2, MOST},
        };
        for (int[] w : wrong) {
            refused("act" + told(w), NONE, x -> x.act(w[0], w[1]));
        }
    }

    // ---- promises 14 to 21

    private static void runs() {
        int[] wrong = {-1, 201, LEAST, MOST, 300};
        for (int n : wrong) {
            refused("run(" + n + ")", NONE, x -> x.run(n));
        }
        Makes last = () -> {
            IceOut x = later();
            x.run(200);
            x.run(93);
            return x;
        };
        int[] over = {2, 3, 100, 200};
        for (int n : over) {
            refusedOn("run(" + n + ") at 299", NONE, x -> x.run(n), last);
        }
    }

    private static void looks() {
        int[][] now = {{-1, 0}, {5, 0}, {2, -1}, {2, 11}, {LEAST, 0}, {2, MOST}};
        for (int[] w : now) {
            refused("now" + told(w), NONE, x -> x.now(w[0], w[1]));
        }
        int[][] crest = {{-1, 0}, {5, 0}, {2, -1}, {2, 2}, {MOST, 0}, {2, LEAST}};
        for (int[] w : crest) {
            refused("crest" + told(w), NONE, x -> x.crest(w[0], w[1]));
        }
        refusedOn("crest before an HOUR is over", NONE, x -> x.crest(2, 0), RefusalsTest::fresh);
        refusedOn("crest before an HOUR is over", NONE, x -> x.crest(2, 1), RefusalsTest::fresh);
        int[][] reading = {
            {-1, 1, 9}, {5, 1, 9}, {2, 0, 9}, {2, 7, 9}, {2, -1, 9}, {2, LEAST, 9}, {2, MOST, MOST}, {2, 6, 6},
            {0, 1, 9}, {2, 1, LEAST},
        };
        for (int[] w : reading) {
            refused("reading" + told(w), NONE, x -> x.reading(w[0], w[1], w[2]));
        }
        int[] rules = {-1, 3, 12, LEAST, MOST};
        for (int r : rules) {
            refused("holds(" + r + ")", NONE, x -> x.holds(r));
            refused("came(" + r + ")", NONE, x -> x.came(r));
        }
        int[] what = {-1, 10, LEAST, MOST};
        for (int w : what) {
            refused("count(" + w + ")", NONE, x -> x.count(w));
        }
    }

    private static void mends() {
        int[][] wrong = {
            {-1, 1, 5}, {5, 1, 5}, {2, 0, 5}, {2, 7, 5}, {2, -1, 5}, {2, LEAST, 5}, {2, MOST, 5}, {2, 1, -1},
            {2, 1, 10000}, {2, 1, LEAST}, {2, 1, MOST},
        };
        for (int[] w : wrong) {
            refused("mend" + told(w), NONE, x -> x.mend(w[0], w[1], w[2]));
        }
        refusedOn("mend at the START", NONE, x -> x.mend(2, 1, 5), RefusalsTest::fresh);
    }

    // ---- promises 22 to 29

    private static void plans() {
        int[][] wrong = {
            {0, 2, 2}, {97, 2, 2}, {-1, 2, 2}, {LEAST, 2, 2}, {MOST, 2, 2}, {5, -1, 2}, {5, 7, 2}, {5, 2, -1},
            {5, 2, 5}, {5, 3, 2}, {5, 4, 0},
        };
        for (int[] w : wrong) {
            refused("plan" + told(w), NONE, x -> x.plan(w[0], w[1], w[2]));
        }
    }

    private static void trials() {
        int[][] trial = {
            {-1, 0, 5}, {8, 0, 5}, {LEAST, 0, 5}, {MOST, 0, 5}, {7, -1, 5}, {7, 4, 5}, {7, 0, 0}, {7, 0, 97},
            {7, 0, -1},
        };
        for (int[] w : trial) {
            refused("trial" + told(w), NONE, x -> x.trial(w[0], w[1], w[2]));
        }
        int[][] worst = {
            {-1, 1, 5}, {8, 1, 5}, {7, 0, 5}, {7, 5, 5}, {7, 1, 0}, {7, 1, 97}, {LEAST, 1, 5}, {7, MOST, 5},
            {7, 1, LEAST},
        };
        for (int[] w : worst) {
            refused("worst" + told(w), NONE, x -> x.worst(w[0], w[1], w[2]));
        }
        int[][] two = {{-1, 5}, {0, 5}, {5, 5}, {1, 0}, {1, 97}, {LEAST, 5}, {1, MOST}};
        for (int[] w : two) {
            refused("best" + told(w), NONE, x -> x.best(w[0], w[1]));
        }
        int[][] fits = {{-1, 5}, {4, 5}, {1, 0}, {1, 97}, {LEAST, 5}, {1, MOST}};
        for (int[] w : fits) {
            refused("fits" + told(w), NONE, x -> x.fits(w[0], w[1]));
        }
    }

    private static void taken() {
        int[] wrong = {-1, 8, LEAST, MOST};
        for (int set : wrong) {
            refused("taken(" + set + ")", NONE, x -> x.taken(set));
        }
    }

    private static void marks() {
        int[][] wrong = {
            {-1, 1, 2}, {5, 1, 2}, {2, -1, 2}, {2, 1, 10000}, {2, 3, 2}, {2, 10000, 10000}, {2, 1, -1},
            {LEAST, 1, 2}, {2, LEAST, 2}, {2, 1, MOST},
        };
        for (int[] w : wrong) {
            refused("mark" + told(w), NONE, x -> x.mark(w[0], w[1], w[2]));
        }
    }

    // ---- promises 30 to 38

    private static void tapes() {
        int[][] none = {
            {-1, 1, 5}, {6, 1, 5}, {BYTES, 0, 5}, {BYTES, 5, 5}, {BYTES, 1, 101}, {-1, 1, -1}, {BYTES, 0, -1},
            {BYTES, 5, -1}, {LEAST, 1, 5}, {BYTES, MOST, 5}, {BYTES, 1, MOST},
        };
        for (int[] w : none) {
            refused("tape" + told(w), NONE, x -> x.tape(w[0], w[1], w[2]));
        }
        for (int d = 0; d < 6; d++) {
            int tape = d;
            refused("tape, SIZE of " + d, SIZE, x -> x.tape(tape, 1, -1));
            refused("tape, SIZE of " + d, SIZE, x -> x.tape(tape, 4, LEAST));
        }
    }

    private static void states() {
        int[] none = {-1, 6, LEAST, MOST};
        for (int d : none) {
            refused("keep(" + d + ")", NONE, x -> x.keep(d));
            refused("back(" + d + ")", NONE, x -> x.back(d));
            refused("toss(" + d + ")", NONE, x -> x.toss(d));
            refused("clear(" + d + ")", NONE, x -> x.clear(d));
        }
        refused("back, NOTHING", NOTHING, x -> x.back(EMPTY));
        refused("toss, NOTHING", NOTHING, x -> x.toss(EMPTY));
        for (int d = BYTES; d <= LONGS; d++) {
            int row = d;
            refused("back, CAST of " + d, CAST, x -> x.back(row));
            refused("toss, CAST of " + d, CAST, x -> x.toss(row));
        }
        refused("toss, THROWN", IceOut.THROWN, x -> x.toss(STATE));
        Makes useless = () -> {
            IceOut x = fresh();
            x.town(0, 41, 550, 1);
            x.run(3);
            return x;
        };
        refusedOn("back, UNABLE", UNABLE, x -> x.back(STATE), useless);
        refusedOn("back, CAST before UNABLE", CAST, x -> x.back(BYTES), useless);
        refusedOn("back, NOTHING before UNABLE", NOTHING, x -> x.back(EMPTY), useless);
    }

    private static void puts() {
        int[] none = {-1, 6, LEAST, MOST};
        for (int d : none) {
            refused("put on TAPE " + d, NONE, x -> x.put(d, 0, 77));
        }
        refused("put, NOTHING", NOTHING, x -> x.put(EMPTY, 0, 77));
        refused("put, NOTHING before PLACE", NOTHING, x -> x.put(EMPTY, -1, 77));
        refused("put, CAST", CAST, x -> x.put(STATE, 0, 77));
        refused("put, CAST before PLACE", CAST, x -> x.put(STATE, -1, 77));
        int[][] place = {
            {BYTES, 5}, {BYTES, -1}, {SHORTS, 3}, {SHORTS, -1}, {INTS, 4}, {INTS, -1}, {LONGS, 3}, {LONGS, -1},
            {BYTES, LEAST}, {LONGS, MOST},
        };
        for (int[] w : place) {
            refused("put, PLACE" + told(w), PLACE, x -> x.put(w[0], w[1], 77));
        }
    }

    /** What at() throws is none of the host's refusals; 1 and 2 stand for what it throws. */
    private static void ats() {
        int[][] wrong = {
            {-1, 0, 1}, {6, 0, 1}, {-1, -1, 1}, {LEAST, 0, 1}, {MOST, 9, 1}, {EMPTY, 0, 2}, {STATE, 0, 2},
            {EMPTY, -1, 2}, {BYTES, 5, 2}, {BYTES, -1, 2}, {SHORTS, 3, 2}, {INTS, 4, 2}, {LONGS, 3, 2},
            {LONGS, LEAST, 2}, {LONGS, MOST, 2},
        };
        for (int[] w : wrong) {
            refused("at" + told(w), w[2], x -> Due.thrownBy(x, w[0], w[1]));
        }
    }

    private static void copies() {
        int[][] none = {
            {-1, 0, INTS, 0, 1}, {6, 0, INTS, 0, 1}, {INTS, 0, -1, 0, 1}, {INTS, 0, 6, 0, 1}, {EMPTY, 0, 6, 0, 1},
            {6, 0, EMPTY, 0, 1}, {INTS, -1, 6, 0, 1}, {STATE, 0, LEAST, 0, 1},
        };
        for (int[] w : none) {
            refused("copy" + told(w), NONE, x -> x.copy(w[0], w[1], w[2], w[3], w[4]));
        }
        int[][] nothing = {
            {EMPTY, 0, INTS, 0, 1}, {INTS, 0, EMPTY, 0, 1}, {EMPTY, 0, EMPTY, 0, 1}, {STATE, 0, EMPTY, 0, 1},
            {EMPTY, 0, STATE, 0, 1}, {EMPTY, -1, INTS, 0, 1},
        };
        for (int[] w : nothing) {
            refused("copy, NOTHING" + told(w), NOTHING, x -> x.copy(w[0], w[1], w[2], w[3], w[4]));
        }
        for (int d = BYTES; d <= STATE; d++) {
            for (int e = BYTES; e <= STATE; e++) {
                if (d != e || d == STATE) {
                    int from = d;
                    int to = e;
                    refused("copy, CAST " + d + " to " + e, CAST, x -> x.copy(from, 0, to, 0, 1));
                    refused("copy, CAST before PLACE " + d + " to " + e, CAST, x -> x.copy(from, -1, to, 0, -1));
                }
            }
        }
        int[][] place = {
            {0, 0, -1}, {-1, 0, 1}, {0, -1, 1}, {0, 0, 5}, {1, 0, 4}, {0, 1, 4}, {4, 0, 1}, {0, 4, 1}, {5, 0, 0},
            {0, 5, 0}, {0, 0, LEAST}, {LEAST, 0, 1}, {0, LEAST, 1}, {0, 0, MOST}, {MOST, 0, MOST},
            {0, MOST, MOST}, {1, 1, MOST},
        };
        for (int[] w : place) {
            refused("copy, PLACE" + told(w), PLACE, x -> x.copy(INTS, w[0], INTS, w[1], w[2]));
        }
    }

    // ---- FULL

    private static Makes with(int times, Call call) {
        return () -> {
            IceOut x = later();
            for (int k = 0; k < times; k++) {
                call.on(x);
            }
            return x;
        };
    }

    /** Just full: the next one is refused; NONE and others that are named first come first. */
    private static void full() {
        Makes rules = with(9, x -> x.rule(2, 2, BYTES));
        DUE.is("12 RULES", rules.one().count(5), 12);
        refusedOn("rule, FULL", FULL, x -> x.rule(2, 2, BYTES), rules);
        refusedOn("rule, NONE before FULL", NONE, x -> x.rule(7, 2, BYTES), rules);
        refusedOn("rule, NOTHING before FULL", NOTHING, x -> x.rule(2, 2, EMPTY), rules);
        refusedOn("rule, CAST before FULL", CAST, x -> x.rule(2, 2, INTS), rules);
        Makes faulty = () -> {
            IceOut x = rules.one();
            x.put(BYTES, 4, 9);
            return x;
        };
        refusedOn("rule, a fault before FULL", -104, x -> x.rule(2, 2, BYTES), faulty);
        Makes acts = () -> {
            IceOut x = later();
            while (x.count(3) < 40) {
                x.act(2, 3);
            }
            return x;
        };
        refusedOn("act, FULL", FULL, x -> x.act(2, 2), acts);
        refusedOn("act, NONE before FULL", NONE, x -> x.act(3, 2), acts);
        Makes mends = with(38, x -> x.mend(2, 3, 321));
        refusedOn("mend, FULL", FULL, x -> x.mend(2, 5, 322), mends);
        refusedOn("mend, NONE before FULL", NONE, x -> x.mend(2, 7, 322), mends);
        Makes plans = with(5, x -> x.plan(1, 2, 2));
        DUE.is("8 ACTS in the PLAN", plans.one().count(6), 8);
        refusedOn("plan, FULL", FULL, x -> x.plan(1, 2, 2), plans);
        refusedOn("plan, NONE before FULL", NONE, x -> x.plan(97, 2, 2), plans);
        Makes taken = with(8, x -> x.taken(7));
        refusedOn("taken, FULL", FULL, x -> x.taken(1), taken);
        refusedOn("taken, NONE before FULL", NONE, x -> x.taken(8), taken);
        // With room for two of three none is TAKEN.
        Makes nearly = with(11, x -> x.taken(6));
        refusedOn("taken, FULL by three", FULL, x -> x.taken(7), nearly);
        DUE.is("room for two", nearly.one().taken(3), 2);
        Makes marks = with(8, x -> x.mark(2, 0, 999));
        DUE.is("10 MARKS", marks.one().count(7), 10);
        refusedOn("mark, FULL", FULL, x -> x.mark(2, 0, 999), marks);
        refusedOn("mark, NONE before FULL", NONE, x -> x.mark(2, 9, 8), marks);
        // More than 20 ORDERS, with room for a RULE.
        Makes orders = () -> {
            IceOut x = later();
            x.tape(BYTES, 1, 40);
            x.put(BYTES, 0, 4);
            for (int k = 2; k < 22; k++) {
                x.put(BYTES, k, 8);
            }
            return x;
        };
        refusedOn("rule, FULL by 21 ORDERS", FULL, x -> x.rule(2, 2, BYTES), orders);
    }
}
