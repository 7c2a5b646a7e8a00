/**
 * The last number that is taken and the first that is refused, on either side, of every number of
 * every call; what is full and what is empty; what is narrowed. By promises.
 */
final class LimitsTest {
    private static final Due DUE = new Due("LimitsTest");

    /** A call on a river of its own that differs in one number alone. */
    interface OfOne {
        long by(int v);
    }

    public static void main(String[] args) {
        cells();
        numbersOfCells();
        weathers();
        weatherNumbers();
        gaugesEyesCrews();
        rules();
        acts();
        hours();
        looks();
        readings();
        ruleNumbers();
        plans();
        trials();
        marks();
        tapes();
        elements();
        copies();
        counts();
        fullOfRules();
        fullOfOrders();
        fullOfActs();
        fullOfPlans();
        fullOfTaken();
        fullOfMarks();
        fullOfMends();
        empty();
        narrowed();
        theLargest();
        DUE.end();
    }

    private static void is(String call, long got, long want) {
        DUE.is(call, got, want);
    }

    /** least .. most are taken, with these answers; the next on either side is refused. */
    private static void span(String what, int least, int most, OfOne call, OfOne due) {
        span(what, least, most, call, due, IceOut.NONE);
    }

    private static void span(String what, int least, int most, OfOne call, OfOne due, int refusal) {
        int[] taken = {least, least + 1, most - 1, most};
        for (int v : taken) {
            if (v >= least && v <= most) {
                is(what + ": " + v, call.by(v), due.by(v));
            }
        }
        int[] refused = {least - 1, most + 1, Integer.MIN_VALUE, Integer.MAX_VALUE};
        for (int v : refused) {
            is(what + ": " + v, call.by(v), refusal);
        }
    }

    private static IceOut river(int cells) {
        IceOut x = new IceOut();
        x.begin(cells);
        return x;
    }

    /** WATER in each CELL, CELL 0 a GATE, two RULES, two ACTS in the PLAN, three HOURS over. */
    private static IceOut run() {
        IceOut x = started(new IceOut());
        x.run(3);
        return x;
    }

    private static IceOut started(IceOut x) {
        x.cell(0, 3, 300, 10, 20);
        for (int i = 0; i < 4; i++) {
            x.fill(i, 50, 20);
            x.gauge(i, 0);
        }
        Due.row(x, 0, 1, 4, 99, 0);
        Due.rule(x, 2, 0, 4, 99, 0);
        Due.rule(x, 2, 1, 4, 98, 0);
        x.plan(1, 2, 0);
        x.plan(2, 2, 0);
        return x;
    }

    /** "CELLS 0 .. R - 1 (R 2 .. 24)", in every call that names one. */
    private static void cells() {
        span("2 R", 2, 24, v -> new IceOut().begin(v), v -> v);
        int[] sizes = {2, 4, 24};
        for (int r : sizes) {
            span("3 i of " + r, 0, r - 1, v -> river(r).cell(v, 0, 7, 1, 1), v -> 7);
            span("4 i of " + r, 0, r - 1, v -> river(r).fill(v, 10, 0), v -> 100 * (r - 1 - v) + 1);
            span("5 i of " + r, 0, r - 1, v -> river(r).town(v, 1, 1, 1), v -> 0);
            span("8 i of " + r, 0, r - 1, v -> river(r).gauge(v, 0), v -> 0);
            span("9 i of " + r, 0, r - 1, v -> river(r).eye(v), v -> 1);
            span("11 cell of " + r, 0, r - 1, v -> Due.rule(river(r), 0, v, 4, 1, 0), v -> 0);
            span("13 cell of " + r, 0, r - 1, v -> river(r).act(0, v), v -> 1);
            span("16 i of " + r, 0, r - 1, v -> river(r).now(v, 0), v -> 100 * (r - 1 - v));
            span("17 i of " + r, 0, r - 1, v -> after(river(r)).crest(v, 1), v -> 1);
            span("18 i of " + r, 0, r - 1, v -> gauged(r).reading(v, 1, 2), v -> 100 * (r - 1 - v));
            span("19 i of " + r, 0, r - 1, v -> after(river(r)).mend(v, 1, 7), v -> 1);
            span("22 cell of " + r, 0, r - 1, v -> river(r).plan(1, 0, v), v -> 1);
            span("28 cell of " + r, 0, r - 1, v -> river(r).mark(v, 0, 0), v -> 1);
        }
        // An ORDER names CELLS too; its place is told instead.
        int[] orders = {1, 2, 3};
        for (int order : orders) {
            for (int r : sizes) {
                is("11 ORDER " + order + ", the last CELL", named(r, order, r - 1), 0);
                is("11 ORDER " + order + ", CELL 0", named(r, order, 0), 0);
                is("11 ORDER " + order + ", CELL R", named(r, order, r), -100);
                is("11 ORDER " + order + ", CELL -1", named(r, order, -1), -100);
                is("11 ORDER " + order + ", CELL 127", named(r, order, 127), -100);
                is("11 ORDER " + order + ", CELL -128", named(r, order, -128), -100);
            }
        }
    }

    private static int named(int r, int order, int cell) {
        return order == 3 ? Due.rule(river(r), 0, 0, order, cell, 0) : Due.rule(river(r), 0, 0, order, cell, 0, 0);
    }

    private static IceOut after(IceOut x) {
        x.run(1);
        return x;
    }

    private static IceOut gauged(int r) {
        IceOut x = river(r);
        for (int i = 0; i < r; i++) {
            x.gauge(i, 0);
        }
        return after(x);
    }

    private static IceOut wet() {
        IceOut x = new IceOut();
        x.fill(0, 200, 0);
        return x;
    }

    private static void numbersOfCells() {
        span("3 KIND", 0, 4, v -> wet().cell(0, v, 7, 10, 1), v -> 27);
        span("3 BED", 0, 2000, v -> wet().cell(0, 0, v, 10, 1), v -> v + 20);
        span("3 AREA", 1, 100, v -> wet().cell(0, 0, 7, v, 1), v -> 7 + 200 / v);
        span("3 PASS", 1, 100, v -> wet().cell(0, 0, 7, 10, v), v -> 27);
        span("4 WATER", 0, 200000, v -> new IceOut().fill(0, v, 0), v -> 300 + v / 10);
        span("4 SHEET", 0, 200, v -> new IceOut().fill(0, 50, v), v -> 305);
        span("4 SHEET", 0, 200, v -> sheeted(v), v -> v, 77);
        span("5 PEOPLE", 0, 9999, v -> new IceOut().town(0, v, 0, 0), v -> 0);
        span("5 BANK", 0, 4000, v -> new IceOut().town(0, 0, v, 0), v -> 0);
        span("5 ROOM", 0, 100000, v -> new IceOut().town(0, 0, 0, v), v -> 0);
        span("5 PEOPLE and ROOM", 0, 9999, v -> peopled(v), v -> 2L * v, 0);
        span("6 LEVEL", 0, 4000, v -> new IceOut().sea(v), v -> 0);
        span("6 LEVEL", 0, 4000, v -> seaTold(v), v -> v, 33);
        // "The greatest whole number not above WATER / AREA."
        is("LEVEL 69 / 7", leveled(69), 9);
        is("LEVEL 70 / 7", leveled(70), 10);
        is("LEVEL 76 / 7", leveled(76), 10);
        is("LEVEL 6 / 7", leveled(6), 0);
        is("LEVEL 0 / 7", leveled(0), 0);
        is("the highest LEVEL", highest(), 202000);
    }

    private static int sheeted(int sheet) {
        IceOut x = new IceOut();
        x.fill(0, 0, 77);
        x.fill(0, 0, sheet);
        return x.now(0, 2);
    }

    private static int peopled(int people) {
        IceOut x = new IceOut();
        x.town(0, people, 0, people);
        return x.now(0, 6) + x.now(0, 7);
    }

    private static int seaTold(int level) {
        IceOut x = new IceOut();
        x.sea(33);
        x.sea(level);
        return x.sea(5);
    }

    private static int leveled(int water) {
        IceOut x = new IceOut();
        x.cell(0, 0, 0, 7, 1);
        return x.fill(0, water, 0);
    }

    private static int highest() {
        IceOut x = new IceOut();
        x.cell(0, 0, 2000, 1, 100);
        x.fill(0, 200000, 200);
        return x.now(0, 9);
    }

    private static IceOut told() {
        IceOut x = new IceOut();
        x.tape(0, 3, 100);
        x.tape(1, 1, 100);
        return x;
    }

    private static void weathers() {
        span("7 w", 0, 3, v -> told().weather(v, 0, 1, 5), v -> 5);
        span("7 d", 0, 0, v -> v == 1 ? -1 : told().weather(0, v, 1, 5), v -> 5);
        span("7 e", 1, 1, v -> v == 0 || v == 2 ? -1 : told().weather(0, 0, v, 5), v -> 5);
        is("7 d 6", told().weather(0, 6, 1, 5), IceOut.NONE);
        is("7 d 5", told().weather(0, 5, 1, 5), IceOut.NOTHING);
        is("7 e 6", told().weather(0, 0, 6, 5), IceOut.NONE);
        is("7 e 5", told().weather(0, 0, 5, 5), IceOut.NOTHING);
        is("7 e -1", told().weather(0, 0, -1, 5), IceOut.NONE);
        span("7 n", 1, 64, v -> told().weather(0, 0, 1, v), v -> v);
        span("24 w", 0, 3, v -> new IceOut().trial(0, v, 1), v -> 0);
        span("29 w", 0, 3, v -> new IceOut().fits(v, 1), v -> 1);
        for (int i = 0; i < 3; i++) {
            int place = i;
            span("7 INFLOW " + i, 0, 9999, v -> withOne(0, place, v), v -> 3, IceOut.UNABLE);
            // Bytes can't hold what is further off; 31 and -31 are refused.
            for (int t = -128; t <= 127; t++) {
                is("7 TEMPERATURE " + i + ": " + t, withOne(1, i, t), t >= -30 && t <= 30 ? 3 : IceOut.UNABLE);
            }
        }
        is("7 behind the n", withOne(0, 3, -1) + withOne(1, 3, 31), 6);
        // Rows just long enough, and one too short.
        int[] lengths = {1, 2, 63, 64};
        for (int n : lengths) {
            IceOut x = new IceOut();
            x.tape(0, 3, n);
            x.tape(1, 1, n);
            is("7 a row of " + n, x.weather(0, 0, 1, n), n);
            x.tape(0, 3, n - 1);
            is("7 INFLOWS one too few for " + n, x.weather(0, 0, 1, n), IceOut.PLACE);
            x.tape(0, 3, n);
            x.tape(1, 1, n - 1);
            is("7 TEMPERATURES one too few for " + n, x.weather(0, 0, 1, n), IceOut.PLACE);
        }
    }

    /** A WEATHER of three with this number at a place of the one TAPE. */
    private static int withOne(int d, int place, int number) {
        IceOut x = told();
        x.put(d, place, number);
        return x.weather(0, 0, 1, 3);
    }

    /** A LAKE above a higher one keeps all that flows in. */
    private static IceOut lake(int r) {
        IceOut x = river(r);
        x.cell(0, 4, 0, 1, 1);
        x.cell(1, 4, 2000, 100, 1);
        return x;
    }

    /** "The last one stands for all hours behind": of 64, of 1, far behind. */
    private static void weatherNumbers() {
        IceOut x = lake(2);
        int[] inflows = new int[64];
        int[] warmths = new int[64];
        inflows[0] = 5;
        inflows[62] = 9;
        inflows[63] = 2;
        warmths[63] = -5;
        Due.weather(x, 0, inflows, warmths);
        x.run(1);
        is("HOUR 1", x.now(0, 1), 5);
        x.run(61);
        is("HOUR 62", x.now(0, 1), 5);
        x.run(1);
        is("HOUR 63", x.now(0, 1), 14);
        is("HOUR 63", x.now(0, 2), 0);
        x.run(1);
        is("HOUR 64", x.now(0, 1), 16);
        is("HOUR 64", x.now(0, 2), 1);
        x.run(1);
        is("HOUR 65 as 64", x.now(0, 1), 18);
        is("HOUR 65 as 64", x.now(0, 2), 2);
        x.run(200);
        x.run(35);
        is("HOUR 300", x.now(0, 1), 488);
        x.fill(0, 0, 0);
        x.town(0, 1, 100, 0);
        x.again();
        x.town(0, 1, 492, 0);
        x.run(200);
        x.run(100);
        is("HOUR 300, just not WET", x.count(2), 0);
        is("HOUR 302 not, 303 WET", x.trial(0, 0, 2), 0);
        is("HOUR 302 not, 303 WET", x.trial(0, 0, 3), 1);
        is("HOUR 396", x.trial(0, 0, 96), 94);
    }

    private static void gaugesEyesCrews() {
        span("8 LAG", -1, 6, v -> new IceOut().gauge(0, v), v -> 0);
        span("8 LAG", -1, 6, v -> lagTold(v), v -> v == -1 ? 0 : 1, 1);
        for (int lag = 0; lag <= 6; lag++) {
            IceOut x = new IceOut();
            x.gauge(0, lag);
            x.run(2);
            int from = 2 + Math.max(1, lag);
            is("LAG " + lag + ": not KNOWN", x.reading(0, 2, from - 1), IceOut.NONE);
            is("LAG " + lag + ": KNOWN", x.reading(0, 2, from), 300);
        }
        span("10 n", 1, 6, v -> new IceOut().crews(v), v -> 2);
        span("10 n", 1, 6, v -> crewed(v), v -> 10L * v, 50);
    }

    private static int lagTold(int lag) {
        IceOut x = new IceOut();
        x.gauge(0, 3);
        x.gauge(0, lag);
        return x.gauge(0, 1);
    }

    /** Ten BAGS wait, and CREWS were 5: what is done in an HOUR. */
    private static int crewed(int crews) {
        IceOut x = new IceOut();
        x.crews(5);
        x.crews(crews);
        for (int k = 0; k < 10; k++) {
            x.act(2, 0);
        }
        x.run(1);
        return x.now(0, 5);
    }

    private static IceOut gated(int kind) {
        IceOut x = new IceOut();
        x.cell(0, kind, 300, 10, 20);
        return x;
    }

    private static void rules() {
        span("11 kind", 0, 6, v -> Due.rule(gated(3), v, 0, 4, 1, 0), v -> 0);
        span("11 d", 0, 5, v -> onEvery(v), v -> 0);
        span("13 kind", 0, 6, v -> gated(3).act(v, 0), v -> 1);
        span("22 kind", 0, 6, v -> gated(3).plan(1, v, 0), v -> 1);
        for (int kind = 0; kind <= 4; kind++) {
            for (int act = 0; act <= 6; act++) {
                boolean none = (act == 3 || act == 4) && kind != 3;
                is("11 ACT " + act + " at KIND " + kind, Due.rule(gated(kind), act, 0, 4, 1, 0),
                        none ? IceOut.NONE : 0);
                is("13 ACT " + act + " at KIND " + kind, gated(kind).act(act, 0), none ? IceOut.NONE : 1);
                is("22 ACT " + act + " at KIND " + kind, gated(kind).plan(9, act, 0), none ? IceOut.NONE : 1);
            }
        }
        // "Numbers v are 0 .. 127 (5: -128 .. 127)." Behind 4 1 only 8 is sound, but lacks its 0.
        for (int v = -128; v <= 127; v++) {
            is("ORDER 1 of " + v, Due.rule(new IceOut(), 0, 0, 1, 0, v, 0), v < 0 ? -100 : 0);
            is("ORDER 2 of " + v, Due.rule(new IceOut(), 0, 0, 2, 0, v, 0), v < 0 ? -100 : 0);
            is("ORDER 4 of " + v, Due.rule(new IceOut(), 0, 0, 4, v, 0), v < 0 ? -100 : 0);
            is("ORDER 5 of " + v, Due.rule(new IceOut(), 0, 0, 5, v, 0), 0);
            is("ORDER " + v, Due.rule(new IceOut(), 0, 0, 4, 1, v), v == 0 ? 0 : v == 8 ? -103 : -102);
        }
    }

    private static int onEvery(int d) {
        IceOut x = new IceOut();
        for (int k = 0; k < 6; k++) {
            Due.row(x, k, 1, 4, 1, 0);
        }
        return x.rule(0, 0, d);
    }

    private static void acts() {
        // "CUT: a SHEET of 15 or more", "BAGS to 100 at most", "to 0 at least", "the least of".
        is("CUT 14", cut(14), 0);
        is("CUT 15", cut(15), 15);
        is("CUT 16", cut(16), 16);
        is("CUT 200", cut(200), 200);
        is("CUT 0", cut(0), 0);
        for (int n = 0; n <= 12; n++) {
            IceOut x = new IceOut();
            x.crews(6);
            for (int k = 0; k < n; k++) {
                x.act(2, 0);
            }
            x.run(2);
            is("BAGS of " + n, x.now(0, 5), Math.min(100, 10 * n));
            is("done " + n, x.count(4), n);
        }
        int[] people = {0, 1, 49, 50, 51, 99, 100, 9999};
        for (int p : people) {
            IceOut x = new IceOut();
            x.town(0, p, 4000, 0);
            x.act(5, 0);
            x.run(1);
            is("MOVE of " + p, x.now(0, 6), p < 50 ? 0 : p - 50);
        }
        int[][] rows = {{0, 0}, {0, 9}, {9, 0}, {9, 10}, {10, 10}, {10, 9}, {100000, 200000}, {100000, 99999}};
        for (int[] row : rows) {
            IceOut x = new IceOut();
            x.cell(0, 4, 0, 1, 1);
            x.cell(1, 4, 2000, 1, 1);
            x.town(0, 0, 4000, row[0]);
            x.fill(0, row[1], 0);
            x.sea(4000);
            x.act(6, 0);
            x.run(1);
            int let = Math.min(row[0], row[1]);
            is("ROOM " + row[0] + " WATER " + row[1], x.now(0, 7), row[0] - let);
            is("WATER " + row[1] + " ROOM " + row[0], x.now(0, 1) + x.now(0, 10), row[1] - let);
        }
    }

    /** FLOES behind a CUT in a LAKE, where they stay. */
    private static int cut(int sheet) {
        IceOut x = new IceOut();
        x.cell(0, 4, 300, 10, 20);
        x.fill(0, 0, sheet);
        x.act(0, 0);
        x.run(1);
        is("CUT: what isn't FLOES stays", x.now(0, 2) + x.now(0, 3), sheet);
        return x.now(0, 3);
    }

    private static void hours() {
        span("14 n", 0, 200, v -> hourAfter(0, v), v -> v);
        int[] over = {100, 101, 200, 299, 300};
        for (int h : over) {
            span("14 n at HOUR " + h, 0, Math.min(200, 300 - h), v -> hourAfter(h, v), v -> h + v);
        }
    }

    /** The HOUR, or NONE if run answers so (and the HOUR is the one it was then). */
    private static int hourAfter(int over, int n) {
        IceOut x = new IceOut();
        x.run(over / 2);
        x.run(over - over / 2);
        int harm = x.run(n);
        is("14 HOUR", x.count(1), harm == IceOut.NONE ? over : over + n);
        return harm == IceOut.NONE ? IceOut.NONE : x.count(1);
    }

    private static void looks() {
        int[] due = {305, 50, 20, 0, 0, 0, 0, 0, 0, 305, 0};
        span("16 what", 0, 10, v -> started(new IceOut()).now(0, v), v -> due[v]);
        // CELL 3: 50, 97, 141, 182 WATER.
        span("17 what", 0, 1, v -> run().crest(3, v), v -> v == 0 ? 18 : 3);
        is("17 LEVEL before an HOUR is over", started(new IceOut()).crest(0, 0), IceOut.NONE);
        is("17 HOUR before an HOUR is over", started(new IceOut()).crest(0, 1), IceOut.NONE);
        IceOut x = run();
        x.again();
        is("17 LEVEL behind again", x.crest(0, 0), IceOut.NONE);
        is("17 HOUR behind again", x.crest(0, 1), IceOut.NONE);
        x.run(0);
        is("17 behind no HOUR", x.crest(0, 1), IceOut.NONE);
        x.run(1);
        is("17 behind one", x.crest(0, 1), 1);
    }

    private static void readings() {
        int[] due = {9, 14, 18};
        span("18 hour", 1, 3, v -> run().reading(3, v, 99), v -> due[v - 1]);
        is("18 at", run().reading(3, 1, 1), IceOut.NONE);
        is("18 at", run().reading(3, 1, 2), 9);
        is("18 at", run().reading(3, 1, Integer.MAX_VALUE), 9);
        is("18 at", run().reading(3, 1, 0), IceOut.NONE);
        is("18 at", run().reading(3, 1, -1), IceOut.NONE);
        is("18 at", run().reading(3, 1, Integer.MIN_VALUE), IceOut.NONE);
        span("19 hour", 1, 3, v -> run().mend(0, v, 7), v -> 1);
        span("19 level", 0, 9999, v -> run().mend(0, 2, v), v -> 1);
        span("19 level", 0, 9999, v -> mended(v), v -> v, 4444);
        IceOut x = new IceOut();
        is("19 HOUR 1 at the START", x.mend(0, 1, 5), IceOut.NONE);
        is("19 HOUR 0 at the START", x.mend(0, 0, 5), IceOut.NONE);
        x.run(200);
        x.run(100);
        is("19 HOUR 300", x.mend(0, 300, 5), 1);
        is("19 HOUR 301", x.mend(0, 301, 5), IceOut.NONE);
        is("18 HOUR 300 at 300", x.reading(0, 300, 300), IceOut.NONE);
        is("18 HOUR 300 at 301", x.reading(0, 300, 301), 5);
        is("18 HOUR 301", x.reading(0, 301, 999), IceOut.NONE);
        // "If the SHEET there is below 30."
        for (int sheet = 28; sheet <= 31; sheet++) {
            IceOut y = new IceOut();
            y.fill(0, 0, sheet);
            y.gauge(0, 0);
            y.run(1);
            is("SHEET " + sheet, y.reading(0, 1, 2), sheet < 30 ? 300 : IceOut.NONE);
        }
    }

    private static int mended(int level) {
        IceOut x = run();
        x.mend(0, 2, 4444);
        x.mend(0, 2, level);
        return x.reading(0, 2, 4);
    }

    private static void ruleNumbers() {
        span("20 rule", 0, 1, v -> run().holds(v), v -> 0);
        span("21 rule", 0, 1, v -> run().came(v), v -> -2);
        int[] many = {0, 1, 12};
        for (int n : many) {
            IceOut x = new IceOut();
            for (int r = 0; r < n; r++) {
                Due.rule(x, 2, 0, 4, 1, 0);
            }
            is("20 the last of " + n, x.holds(n - 1), n == 0 ? IceOut.NONE : 1);
            is("20 none behind " + n, x.holds(n), IceOut.NONE);
            is("21 the last of " + n, x.came(n - 1), n == 0 ? IceOut.NONE : -2);
            is("21 none behind " + n, x.came(n), IceOut.NONE);
        }
    }

    private static void plans() {
        span("22 hour", 1, 96, v -> new IceOut().plan(v, 2, 0), v -> 1);
        span("27 set", 0, 3, v -> run().taken(v), v -> Integer.bitCount(v));
        span("24 set", 0, 3, v -> run().trial(v, 0, 5), v -> 0);
        span("26 set", 0, 3, v -> run().worst(v, 1, 5), v -> 0);
        for (int n = 0; n <= 8; n++) {
            int size = n;
            span("24 set of " + n, 0, (1 << n) - 1, v -> planned(size).trial(v, 0, 1), v -> 0);
            span("26 set of " + n, 0, (1 << n) - 1, v -> planned(size).worst(v, 1, 1), v -> 0);
            span("27 set of " + n, 0, (1 << n) - 1, v -> planned(size).taken(v), v -> Integer.bitCount(v));
        }
        // HOUR 96 of the PLAN in a TRIAL of 95 and of 96 HOURS.
        IceOut x = new IceOut();
        x.town(0, 50, 0, 0);
        x.plan(96, 5, 0);
        x.plan(1, 5, 0);
        is("24 HOUR 96 of 95", x.trial(1, 0, 95), 95 * 50);
        is("24 HOUR 96 of 96", x.trial(1, 0, 96), 95 * 50);
        is("24 HOUR 1 of 1", x.trial(2, 0, 1), 0);
        is("25 HOUR 96 of 95", x.best(1, 95), 2);
        x.planless();
        x.plan(96, 5, 0);
        is("25 HOUR 96 of 95: none does better", x.best(1, 95), 0);
        is("25 HOUR 96 of 96", x.best(1, 96), 1);
    }

    private static IceOut planned(int n) {
        IceOut x = new IceOut();
        for (int k = 0; k < n; k++) {
            x.plan(1, 2, 0);
        }
        return x;
    }

    private static void trials() {
        span("24 hours", 1, 96, v -> people().trial(0, 0, v), v -> v);
        span("25 hours", 1, 96, v -> people().best(1, v), v -> 0);
        span("26 hours", 1, 96, v -> people().worst(0, 1, v), v -> v);
        span("29 hours", 1, 96, v -> new IceOut().fits(0, v), v -> 1);
        span("25 n", 1, 4, v -> people().best(v, 3), v -> 0);
        span("26 n", 1, 4, v -> people().worst(0, v, 3), v -> 3);
        // The WEATHERS 0 .. n - 1: each brings more than the one ahead of it.
        IceOut x = people();
        for (int w = 1; w < 4; w++) {
            Due.weather(x, w, new int[] {4 - w, 0}, new int[] {0, 0});
        }
        x.again();
        x.cell(0, 4, 0, 1, 1);
        x.cell(1, 4, 2000, 100, 1);
        for (int n = 1; n <= 4; n++) {
            x.town(0, 10, 1, 0);
            is("26 of " + n, x.worst(0, n, 2), n == 1 ? 0 : 20);
            x.town(0, 10, 2, 0);
            is("26 of " + n, x.worst(0, n, 2), n == 1 ? 0 : 20);
            x.town(0, 10, 3, 0);
            is("26 of " + n, x.worst(0, n, 2), 0);
        }
    }

    private static IceOut people() {
        IceOut x = new IceOut();
        x.town(0, 1, 0, 0);
        return x;
    }

    private static void marks() {
        span("28 low", 0, 9999, v -> new IceOut().mark(0, v, 9999), v -> 1);
        span("28 high", 0, 9999, v -> new IceOut().mark(0, 0, v), v -> 1);
        span("28 low, high", 0, 9999, v -> new IceOut().mark(0, v, v), v -> 1);
        span("28 high from 7 on", 7, 9999, v -> new IceOut().mark(0, 7, v), v -> 1);
        span("28 low up to 7", 0, 7, v -> new IceOut().mark(0, v, 7), v -> 1);
        // CELL 0 is at 300 in every HOUR: both ends of the span are in it.
        int[][] spans = {
            {300, 300, 1}, {299, 300, 1}, {300, 301, 1}, {299, 299, 0}, {301, 301, 0}, {0, 299, 0},
            {301, 9999, 0}, {0, 9999, 1},
        };
        for (int[] s : spans) {
            IceOut x = new IceOut();
            x.mark(0, s[0], s[1]);
            is("29 " + s[0] + " .. " + s[1], x.fits(0, 1), s[2]);
            is("29 " + s[0] + " .. " + s[1], x.fits(3, 96), s[2]);
        }
        // A LEVEL above all spans: 10000 isn't in 0 .. 9999.
        for (int water = 9998; water <= 10000; water++) {
            IceOut x = lake(2);
            x.cell(1, 4, 2000, 1, 1);
            x.fill(1, 200000, 0);
            x.fill(0, water, 0);
            x.mark(0, 0, 9999);
            is("29 a CREST of " + water, x.fits(0, 1), water <= 9999 ? 1 : 0);
        }
    }

    private static IceOut rows(int sort) {
        IceOut x = new IceOut();
        for (int d = 0; d < 6; d++) {
            x.tape(d, sort, 4);
        }
        return x;
    }

    private static void tapes() {
        span("30 d", 0, 5, v -> new IceOut().tape(v, 1, 1), v -> 1);
        span("30 sort", 1, 4, v -> new IceOut().tape(0, v, 9), v -> 9);
        span("31 d", 0, 5, v -> run().keep(v), v -> 3);
        span("32 d", 0, 5, v -> kept().back(v), v -> 3);
        span("33 d", 0, 5, v -> kept().toss(v), v -> 6);
        span("34 d", 0, 5, v -> kept().clear(v), v -> 5);
        span("35 d", 0, 5, v -> rows(1).put(v, 0, 1), v -> 1);
        span("37 d", 0, 5, v -> rows(1).copy(v, 0, 0, 0, 1), v -> 1);
        span("37 e", 0, 5, v -> rows(1).copy(0, 0, v, 0, 1), v -> 1);
        int[] refused = {-1, 6, Integer.MIN_VALUE, Integer.MAX_VALUE};
        for (int d : refused) {
            is("36 d " + d, Due.thrownBy(rows(1), d, 0), 1);
        }
        is("36 d 0", Due.thrownBy(rows(1), 0, 0), 0);
        is("36 d 5", Due.thrownBy(rows(1), 5, 0), 0);
        for (int sort = 1; sort <= 4; sort++) {
            int s = sort;
            int[] taken = {0, 1, 99, 100};
            for (int n : taken) {
                is("30 n " + n, new IceOut().tape(0, s, n), n);
            }
            for (int i = 0; i < 5; i++) {
                IceOut x = new IceOut();
                Due.row(x, 0, s, 11, 12, 13, 14, 15);
                x.tape(0, s, 5);
                is("30 all 0", x.at(0, i), 0);
                x.put(0, i, 9);
                x.clear(0);
                x.tape(0, s, 5);
                is("30 all 0 behind clear", x.at(0, i), 0);
                x.put(0, i, 9);
                x.keep(0);
                x.tape(0, s, 5);
                is("30 all 0 behind keep", x.at(0, i), 0);
            }
            is("30 n 101", new IceOut().tape(0, s, 101), IceOut.NONE);
            is("30 n far off", new IceOut().tape(0, s, Integer.MAX_VALUE), IceOut.NONE);
            is("30 n -1", new IceOut().tape(0, s, -1), IceOut.SIZE);
            is("30 n far off", new IceOut().tape(0, s, Integer.MIN_VALUE), IceOut.SIZE);
        }
    }

    /** Each TAPE has a STATE of HOUR 3 with HARM 6. */
    private static IceOut kept() {
        IceOut x = new IceOut();
        x.town(0, 2, 0, 0);
        x.run(3);
        for (int d = 0; d < 6; d++) {
            x.keep(d);
        }
        return x;
    }

    private static void elements() {
        int[] lengths = {1, 2, 99, 100};
        for (int sort = 1; sort <= 4; sort++) {
            for (int n : lengths) {
                int s = sort;
                span("35 i of " + n, 0, n - 1, v -> row(s, n).put(0, v, 7), v -> 1, IceOut.PLACE);
                int[] none = {-1, n, n + 1, Integer.MIN_VALUE, Integer.MAX_VALUE};
                for (int i : none) {
                    is("36 i of " + n, Due.thrownBy(row(s, n), 0, i), 2);
                }
                is("36 the first of " + n, row(s, n).at(0, 0), 0);
                is("36 the last of " + n, row(s, n).at(0, n - 1), 0);
            }
            is("35 a row of none", row(sort, 0).put(0, 0, 1), IceOut.PLACE);
            is("36 a row of none", Due.thrownBy(row(sort, 0), 0, 0), 2);
        }
        is("36 nothing", Due.thrownBy(new IceOut(), 0, 0), 2);
        is("36 a STATE", Due.thrownBy(kept(), 0, 0), 2);
        is("35 nothing", new IceOut().put(0, 0, 1), IceOut.NOTHING);
        is("35 a STATE", kept().put(0, 0, 1), IceOut.CAST);
    }

    private static IceOut row(int sort, int n) {
        IceOut x = new IceOut();
        x.tape(0, sort, n);
        return x;
    }

    /** Rows of 5 and of 3. */
    private static IceOut two() {
        IceOut x = new IceOut();
        Due.row(x, 0, 3, 1, 2, 3, 4, 5);
        Due.row(x, 1, 3, 6, 7, 8);
        return x;
    }

    private static void copies() {
        span("37 n", 0, 3, v -> two().copy(0, 0, 1, 0, v), v -> v, IceOut.PLACE);
        span("37 n from the longer", 0, 3, v -> two().copy(1, 0, 0, 0, v), v -> v, IceOut.PLACE);
        span("37 n of all", 0, 5, v -> two().copy(0, 0, 0, 0, v), v -> v, IceOut.PLACE);
        span("37 i", 0, 2, v -> two().copy(0, v, 1, 0, 3), v -> 3, IceOut.PLACE);
        span("37 i with none", 0, 5, v -> two().copy(0, v, 1, 0, 0), v -> 0, IceOut.PLACE);
        span("37 j", 0, 2, v -> two().copy(1, 0, 0, v, 3), v -> 3, IceOut.PLACE);
        span("37 j with none", 0, 3, v -> two().copy(0, 0, 1, v, 0), v -> 0, IceOut.PLACE);
        IceOut none = new IceOut();
        none.tape(0, 2, 0);
        none.tape(1, 2, 0);
        is("37 rows of none", none.copy(0, 0, 1, 0, 0), 0);
        is("37 rows of none", none.copy(0, 0, 0, 0, 0), 0);
        is("37 rows of none", none.copy(0, 0, 1, 0, 1), IceOut.PLACE);
        is("37 rows of none", none.copy(0, 1, 1, 0, 0), IceOut.PLACE);
        is("37 rows of none", none.copy(0, 0, 1, 1, 0), IceOut.PLACE);
        // Sums that would wrap around.
        is("37 i + n", two().copy(0, 1, 1, 0, Integer.MAX_VALUE), IceOut.PLACE);
        is("37 j + n", two().copy(0, 0, 1, 1, Integer.MAX_VALUE), IceOut.PLACE);
        is("37 i + n", two().copy(0, Integer.MAX_VALUE, 1, 0, 1), IceOut.PLACE);
        is("37 j + n", two().copy(0, 0, 1, Integer.MAX_VALUE, 1), IceOut.PLACE);
        is("37 all", two().copy(0, Integer.MAX_VALUE, 1, Integer.MAX_VALUE, Integer.MAX_VALUE), IceOut.PLACE);
        is("37 all", two().copy(0, Integer.MIN_VALUE, 1, Integer.MIN_VALUE, Integer.MIN_VALUE), IceOut.PLACE);
        // "As they all were before": by one place, onto itself.
        long[] numbers = {1, 2, 3, 4, 5};
        for (int i = 0; i <= 5; i++) {
            for (int j = 0; j <= 5; j++) {
                for (int n = 0; n + Math.max(i, j) <= 5; n++) {
                    IceOut x = two();
                    is("37 onto itself", x.copy(0, i, 0, j, n), n);
                    for (int k = 0; k < 5; k++) {
                        is("37 onto itself", x.at(0, k), numbers[k >= j && k < j + n ? k - j + i : k]);
                    }
                }
            }
        }
    }

    private static void counts() {
        int[] due = {4, 3, 0, 0, 0, 2, 2, 0, 0, 0};
        span("38 what", 0, 9, v -> run().count(v), v -> due[v]);
    }

    private static void fullOfRules() {
        IceOut x = new IceOut();
        for (int r = 0; r < 12; r++) {
            is("11 RULE " + r, Due.rule(x, 2, 0, 4, 1, 0), r);
        }
        is("11 12 RULES", Due.rule(x, 2, 0, 4, 1, 0), IceOut.FULL);
        is("11 RULES stay", x.count(5), 12);
        is("12 all", x.ruleless(), 12);
        is("11 room again", Due.rule(x, 2, 0, 4, 1, 0), 0);
    }

    /** 20 ORDERS ahead of the 0 are taken, with numbers or without; 21 aren't. */
    private static void fullOfOrders() {
        for (int n = 1; n <= 22; n++) {
            long[] nots = new long[n + 2];
            java.util.Arrays.fill(nots, 8);
            nots[0] = 4;
            nots[1] = 1;
            nots[n + 1] = 0;
            is("11 ORDERS " + n, Due.rule(new IceOut(), 2, 0, nots), n <= 20 ? 0 : IceOut.FULL);
        }
        // 4 v, then again and again 1 c v 7: an odd number of ORDERS.
        for (int pairs = 8; pairs <= 11; pairs++) {
            long[] words = new long[3 + 4 * pairs];
            words[0] = 4;
            for (int k = 0; k < pairs; k++) {
                words[2 + 4 * k] = 1;
                words[5 + 4 * k] = 7;
            }
            is("11 ORDERS " + (1 + 2 * pairs), Due.rule(new IceOut(), 2, 0, words), pairs <= 9 ? 0 : IceOut.FULL);
        }
        IceOut x = new IceOut();
        // Nine that are pushed, eight that join them, three nots: what isn't there doesn't hold.
        long[] twenty = {
            1, 0, 0, 2, 0, 0, 7, 1, 0, 0, 7, 2, 0, 0, 7, 3, 0, 7, 4, 99, 7, 5, 99, 7, 4, 2, 7, 3, 3, 8, 6, 8, 8,
            0,
        };
        for (int r = 0; r < 12; r++) {
            is("11 20 ORDERS in RULE " + r, Due.rule(x, 2, 0, twenty), r);
        }
        for (int r = 0; r < 12; r++) {
            is("20 RULE " + r, x.holds(r), 0);
        }
        x.run(1);
        for (int r = 0; r < 12; r++) {
            is("20 RULE " + r, x.holds(r), 1);
        }
    }

    /** "40 wait at most; what comes beyond is lost": by hand, TAKEN, of RULES, of a PLAN. */
    private static void fullOfActs() {
        for (int n = 38; n <= 40; n++) {
            IceOut x = waiting(n);
            is("13 " + n, x.count(3), n);
            is("13 one more than " + n, x.act(2, 1), n == 40 ? IceOut.FULL : n + 1);
            IceOut y = waiting(n);
            y.plan(1, 5, 1);
            y.taken(1);
            y.run(21);
            is("TAKEN behind " + n, y.now(1, 6), n == 40 ? 80 : 30);
            is("TAKEN behind " + n + ", done", y.count(4), Math.min(40, n + 1));
            IceOut z = waiting(n);
            Due.rule(z, 5, 1, 4, 1, 0);
            z.run(21);
            is("a RULE's behind " + n, z.now(1, 6), n == 40 ? 80 : 30);
            is("a RULE's behind " + n + ": it came", z.came(0), 1);
            IceOut p = waiting(n);
            p.plan(1, 5, 1);
            p.town(1, 80, 0, 0);
            is("the PLAN's behind " + n, p.trial(1, 0, 22) < p.trial(0, 0, 22) ? 1 : 0, n == 40 ? 0 : 1);
        }
        // TAKEN come ahead of the RULES': the last place is theirs.
        IceOut x = waiting(39);
        x.plan(1, 5, 1);
        x.taken(1);
        Due.rule(x, 5, 0, 4, 1, 0);
        x.run(1);
        is("39 and two come", x.count(3), 38);
        x.run(20);
        is("the TAKEN one was done", x.now(1, 6), 30);
        is("the RULE's was lost", x.now(0, 6), 80);
        is("it came", x.came(0), 1);
        x.run(50);
        is("it comes but once", x.now(0, 6), 80);
        // FULL is FULL until the CREWS were there.
        IceOut y = waiting(40);
        is("FULL", y.act(2, 0), IceOut.FULL);
        y.run(1);
        is("39th", y.act(2, 0), 39);
        is("40th", y.act(2, 0), 40);
        is("FULL", y.act(2, 0), IceOut.FULL);
        y.again();
        is("none wait", y.act(2, 0), 1);
    }

    private static IceOut waiting(int n) {
        IceOut x = new IceOut();
        x.town(0, 80, 4000, 0);
        x.town(1, 80, 4000, 0);
        for (int k = 0; k < n; k++) {
            x.act(2, 2);
        }
        return x;
    }

    private static void fullOfPlans() {
        IceOut x = new IceOut();
        for (int k = 1; k <= 8; k++) {
            is("22 " + k, x.plan(k, 2, 0), k);
        }
        is("22 FULL", x.plan(1, 2, 0), IceOut.FULL);
        is("22 stays", x.count(6), 8);
        is("23 all", x.planless(), 8);
        is("22 room again", x.plan(1, 2, 0), 1);
    }

    private static void fullOfTaken() {
        IceOut x = planned(8);
        is("27 8", x.taken(255), 8);
        is("27 16", x.taken(255), 8);
        is("27 24", x.taken(255), 8);
        is("27 none more", x.taken(0), 0);
        is("27 25", x.taken(1), IceOut.FULL);
        is("27 25", x.taken(128), IceOut.FULL);
        is("27 32", x.taken(255), IceOut.FULL);
        is("24 a TRIAL has room for 32", x.trial(255, 0, 1), 0);
        x.run(1);
        is("27 all came: 2 done", x.count(3), 22);
        is("27 room again", x.taken(255), 8);
        // 23 TAKEN: one more is taken, two aren't.
        IceOut y = planned(8);
        y.taken(255);
        y.taken(255);
        is("27 23", y.taken(127), 7);
        is("27 25", y.taken(3), IceOut.FULL);
        is("27 24", y.taken(2), 1);
        is("27 FULL", y.taken(2), IceOut.FULL);
        y.again();
        is("27 again drops them", y.taken(255), 8);
        // Those whose HOUR never comes wait for good.
        IceOut z = new IceOut();
        for (int k = 0; k < 8; k++) {
            z.plan(96, 2, 0);
        }
        z.run(200);
        z.run(5);
        z.taken(255);
        z.taken(255);
        z.taken(255);
        z.run(95);
        is("27 HOUR 301 doesn't come", z.taken(1), IceOut.FULL);
        is("27 none came", z.count(4) + z.count(3), 0);
    }

    private static void fullOfMarks() {
        IceOut x = new IceOut();
        for (int k = 1; k <= 10; k++) {
            is("28 " + k, x.mark(3, 0, 1000), k);
        }
        is("28 FULL", x.mark(3, 0, 1000), IceOut.FULL);
        is("28 stays", x.count(7), 10);
        is("29 all ten", x.fits(0, 1), 1);
        IceOut y = new IceOut();
        for (int k = 1; k <= 9; k++) {
            y.mark(3, 0, 1000);
        }
        y.mark(0, 0, 299);
        is("29 the tenth counts", y.fits(0, 1), 0);
    }

    private static void fullOfMends() {
        IceOut x = run();
        for (int k = 1; k <= 40; k++) {
            is("19 " + k, x.mend(k % 4, 1 + k % 3, k), 1);
        }
        is("19 FULL", x.mend(0, 1, 41), IceOut.FULL);
        is("19 the last one", x.reading(0, 2, 4), 40);
        is("19 as it was KNOWN", x.reading(3, 2, 3), 14);
        is("19 as it was KNOWN", x.reading(3, 2, 2), IceOut.NONE);
        x.keep(2);
        x.again();
        is("19 since the START: HOUR 1 isn't over", x.mend(0, 1, 1), IceOut.NONE);
        x.run(1);
        for (int k = 1; k <= 40; k++) {
            is("19 " + k, x.mend(0, 1, k), 1);
        }
        is("19 FULL", x.mend(0, 1, 41), IceOut.FULL);
        is("19 one CELL, one HOUR", x.reading(0, 1, 2), 40);
    }

    /** What there is none of. */
    private static void empty() {
        IceOut x = new IceOut();
        is("12 no RULES", x.ruleless(), 0);
        is("23 no PLAN", x.planless(), 0);
        is("27 no ACTS", x.taken(0), 0);
        is("24 no ACTS", x.trial(0, 0, 1), 0);
        is("25 no PLAN", x.best(4, 96), 0);
        is("26 no ACTS", x.worst(0, 4, 96), 0);
        is("29 no MARKS", x.fits(0, 96), 1);
        is("14 no HOURS", x.run(0), 0);
        is("34 nothing", x.clear(0), 0);
        is("15 nothing was", x.again(), 0);
        is("7 n 0", told().weather(0, 0, 1, 0), IceOut.NONE);
        is("11 no words", Due.rule(x, 0, 0), -100);
        is("11 but the end", Due.rule(x, 0, 0, 0), -100);
        for (int d = 0; d < 6; d++) {
            is("32 nothing", x.back(d), IceOut.NOTHING);
            is("33 nothing", x.toss(d), IceOut.NOTHING);
            is("35 nothing", x.put(d, 0, 0), IceOut.NOTHING);
            is("37 nothing", x.copy(d, 0, d, 0, 0), IceOut.NOTHING);
            is("11 nothing", x.rule(0, 0, d), IceOut.NOTHING);
            is("7 nothing", x.weather(0, d, d, 1), IceOut.NOTHING);
        }
        is("38 refusals", x.count(9), 36);
    }

    /** "Narrowed to its sort": what wraps around. */
    private static void narrowed() {
        long[][] rows = {
            {1, 127, 127}, {1, 128, -128}, {1, -128, -128}, {1, -129, 127}, {1, 255, -1}, {1, 256, 0},
            {1, Long.MAX_VALUE, -1}, {1, Long.MIN_VALUE, 0}, {2, 32767, 32767}, {2, 32768, -32768},
            {2, -32768, -32768}, {2, -32769, 32767}, {2, 65535, -1}, {2, 65536, 0}, {2, Long.MAX_VALUE, -1},
            {2, Long.MIN_VALUE, 0}, {3, 2147483647L, 2147483647L}, {3, 2147483648L, -2147483648L},
            {3, -2147483648L, -2147483648L}, {3, -2147483649L, 2147483647L}, {3, 4294967295L, -1},
            {3, 4294967296L, 0}, {3, Long.MAX_VALUE, -1}, {3, Long.MIN_VALUE, 0},
            {4, Long.MAX_VALUE, Long.MAX_VALUE}, {4, Long.MIN_VALUE, Long.MIN_VALUE},
            {4, 4294967296L, 4294967296L},
        };
        for (long[] r : rows) {
            IceOut x = row((int) r[0], 3);
            is("35", x.put(0, 1, r[1]), 1);
            is("35 " + r[1] + " in sort " + r[0], x.at(0, 1), r[2]);
            is("35 beside it", x.at(0, 0) + x.at(0, 2), 0);
            is("37", x.copy(0, 1, 0, 0, 1), 1);
            is("37 as it was", x.at(0, 0), r[2]);
        }
        // What was narrowed is what a WEATHER and words see.
        IceOut x = told();
        x.put(0, 0, 4294967296L + 5);
        x.put(1, 0, 256 - 5);
        is("7 narrowed", x.weather(0, 0, 1, 1), 1);
        x.cell(0, 4, 0, 1, 1);
        x.run(1);
        is("7 INFLOW 5", x.now(0, 1), 5);
        is("7 TEMPERATURE -5", x.now(0, 2), 1);
        Due.row(x, 2, 1, 256 + 4, 512 + 2, 1024);
        is("11 narrowed", x.rule(2, 0, 2), 0);
        x.run(1);
        is("11 4 2 0", x.came(0), 2);
    }

    /** 24 CELLS with all there may be, and then two of them: nothing of the others is left. */
    private static void theLargest() {
        IceOut x = river(24);
        for (int i = 0; i < 24; i++) {
            is("3", x.cell(i, i % 4, 2000 - 80 * i, 1, 100), 2000 - 80 * i);
            is("4", x.fill(i, 200000, 200), 202000 - 80 * i);
            is("5", x.town(i, 9999, 4000, 100000), 0);
            is("8", x.gauge(i, 6), 0);
            is("9", x.eye(i), 1);
            x.act(0, i);
        }
        x.crews(6);
        Due.weather(x, 0, new int[] {9999}, new int[] {-30});
        is("14", x.run(0), 0);
        x.run(4);
        is("all were CUT", x.count(4), 24);
        x.run(196);
        x.run(100);
        is("38 HOUR", x.count(1), 300);
        is("24", x.trial(0, 0, 96) >= 0 ? 1 : 0, 1);
        is("38 HARM", x.count(2) > 0 && x.count(2) <= 300 * 24 * 9999 ? 1 : 0, 1);
        int ice = 0;
        for (int i = 0; i < 24; i++) {
            ice += x.now(i, 3) + x.now(i, 4);
        }
        is("38 FLOES and JAM", x.count(8), ice);
        x.begin(24);
        for (int i = 0; i < 24; i++) {
            x.cell(i, 4, 0, 1, 1);
            x.fill(i, 0, 15);
            x.act(0, i);
        }
        x.run(12);
        is("38 FLOES of 24", x.count(8), 24 * 15);
        x.keep(0);
        is("2", x.begin(2), 2);
        is("38 none", x.count(8), 0);
        is("16 no CELL 2", x.now(2, 3), IceOut.NONE);
        is("32", x.back(0), IceOut.UNABLE);
        Due.weather(x, 0, new int[] {0}, new int[] {-30});
        x.run(1);
        is("THE SEA is below CELL 1", x.now(1, 10), 0);
        is("2", x.begin(24), 24);
        is("38 none", x.count(8), 0);
        Due.weather(x, 0, new int[] {0}, new int[] {-30});
        x.run(1);
        for (int i = 0; i < 24; i++) {
            is("a SHEET", x.now(i, 2), 6);
        }
    }
}
