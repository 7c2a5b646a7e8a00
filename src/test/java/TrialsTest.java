/** Promises 22 to 29: PLAN, TRIALS, the BEST SET, TAKEN, MARKS. */
final class TrialsTest {
    private static final Due DUE = new Due("TrialsTest");

    public static void main(String[] args) {
        promise22();
        promise23();
        promise24();
        promise24Rules();
        promise24LeavesAll();
        promise24Order();
        promise25();
        promise25Ties();
        promise26();
        promise27();
        promise27Order();
        promise28();
        promise29();
        promise29FromTheStart();
        DUE.end();
    }

    private static void is(String call, long got, long want) {
        DUE.is(call, got, want);
    }

    /** Towns that are WET in every HOUR: 100 PEOPLE in CELL 0, 10 in CELL 1, 1 in CELL 2. */
    private static IceOut towns() {
        IceOut x = new IceOut();
        x.town(0, 100, 295, 0);
        x.town(1, 10, 195, 0);
        x.town(2, 1, 0, 0);
        return x;
    }

    private static void promise22() {
        IceOut x = new IceOut();
        x.cell(0, 3, 300, 10, 20);
        int[][] wrong = {{0, 0, 0}, {97, 0, 0}, {-1, 0, 0}, {1, -1, 0}, {1, 7, 0}, {1, 0, -1}, {1, 0, 4}, {1, 3, 1},
            {1, 4, 3}, {Integer.MAX_VALUE, 0, 0}};
        for (int[] w : wrong) {
            is("22: " + java.util.Arrays.toString(w), x.plan(w[0], w[1], w[2]), IceOut.NONE);
        }
        is("22: none", x.count(6), 0);
        is("22: 1", x.plan(1, 3, 0), 1);
        is("22: 96", x.plan(96, 4, 0), 2);
        for (int k = 3; k <= 8; k++) {
            is("22: plan", x.plan(5, 6, 3), k);
        }
        is("22: FULL", x.plan(5, 6, 3), IceOut.FULL);
        is("22: NONE first", x.plan(0, 6, 3), IceOut.NONE);
        is("22: PLAN", x.count(6), 8);
        x.run(1);
        is("22: no ACTS of the PLAN in THE RUN", x.now(0, 8), 0);
        is("22: none", x.count(4), 0);
        x.again();
        is("22: it stays through again", x.count(6), 8);
    }

    private static void promise23() {
        IceOut x = new IceOut();
        is("23: none", x.planless(), 0);
        x.plan(1, 0, 0);
        x.plan(1, 0, 0);
        is("23: two", x.planless(), 2);
        is("23: empty", x.count(6), 0);
        is("23: no set but none", x.trial(1, 0, 1), IceOut.NONE);
        is("23: none", x.trial(0, 0, 1), 0);
        is("23: none", x.planless(), 0);
    }

    private static void promise24() {
        IceOut x = towns();
        is("24: 5 HOURS", x.trial(0, 0, 5), 555);
        x.plan(2, 2, 0);
        x.plan(5, 2, 1);
        is("24: BAGS at HOUR 2", x.trial(1, 0, 5), 155);
        is("24: BAGS at HOUR 5", x.trial(2, 0, 5), 545);
        is("24: both", x.trial(3, 0, 5), 145);
        is("24: too late", x.trial(2, 0, 4), 444);
        x.run(3);
        is("24: less that of now", x.trial(0, 0, 5), 555);
        is("24: HOURS counted from now", x.trial(3, 0, 5), 145);
        is("24: 1", x.trial(3, 3, 1), 111);
        is("24: 96", x.trial(3, 0, 96), 111 + 11 * 3 + 92);
        int[][] wrong = {{-1, 0, 1}, {4, 0, 1}, {0, -1, 1}, {0, 4, 1}, {0, 0, 0}, {0, 0, 97}, {0, 0, -1},
            {Integer.MIN_VALUE, 0, 1}, {Integer.MAX_VALUE, 0, 1}};
        for (int[] w : wrong) {
            is("24: " + java.util.Arrays.toString(w), x.trial(w[0], w[1], w[2]), IceOut.NONE);
        }
        // The numbers of a WEATHER from HOUR now + 1 = 4 on.
        IceOut y = new IceOut();
        y.begin(2);
        y.cell(0, 4, 0, 1, 1);
        y.cell(1, 4, 2000, 1, 1);
        y.town(0, 1, 4, 0);
        Due.weather(y, 2, new int[] {0, 0, 0, 0, 5, 0}, new int[] {0, 0, 0, 0, 0, 0});
        is("24: 5 come at HOUR 5", y.trial(0, 2, 6), 2);
        y.run(3);
        is("24: 5 come at HOUR 5", y.trial(0, 2, 6), 5);
        y.run(2);
        is("24: they came by no WEATHER 0", y.trial(0, 2, 6), 0);
    }

    private static void promise24Rules() {
        IceOut x = towns();
        Due.rule(x, 2, 0, 4, 3, 0);
        is("24: a RULE comes at HOUR 3", x.trial(0, 0, 5), 222 + 33);
        x.act(2, 1);
        is("24: what waits comes", x.trial(0, 0, 5), 202 + 3);
        x.run(4);
        is("24: it has come", x.trial(0, 0, 5), 5);
        // The first HOUR of a TRIAL is told the TEMPERATURE of THE RUN's last.
        IceOut y = towns();
        Due.weather(y, 0, new int[] {0}, new int[] {3});
        Due.weather(y, 1, new int[] {0}, new int[] {9});
        Due.rule(y, 2, 0, 5, 9, 0);
        is("24: at HOUR 2 of WEATHER 1", y.trial(0, 1, 3), 111 + 22);
        is("24: never by WEATHER 0", y.trial(0, 0, 3), 333);
        y.run(2);
        is("24: at the second HOUR", y.trial(0, 1, 3), 111 + 22);
        y.ruleless();
        Due.rule(y, 2, 0, 5, 3, 5, 9, 8, 6, 0);
        is("24: THE RUN's last was 3", y.trial(0, 1, 3), 33);
        // GAUGES are read in a TRIAL.
        IceOut z = towns();
        z.gauge(0, 1);
        Due.rule(z, 2, 0, 1, 0, 30, 0);
        is("24: HOUR 1 is KNOWN at HOUR 2", z.trial(0, 0, 3), 111 + 22);
        is("24: no reading of it stays", z.holds(0), 0);
        z.run(1);
        is("24: KNOWN at once", z.trial(0, 0, 3), 33);
    }

    private static void promise24LeavesAll() {
        IceOut x = towns();
        x.cell(0, 3, 300, 10, 20);
        x.fill(0, 100, 20);
        x.fill(1, 200, 20);
        x.gauge(0, 0);
        Due.rule(x, 5, 1, 4, 3, 0);
        Due.rule(x, 2, 1, 4, 6, 0);
        x.plan(1, 0, 0);
        x.plan(2, 3, 0);
        x.plan(4, 5, 0);
        x.act(2, 2);
        x.run(1);
        x.taken(4);
        x.act(2, 2);
        int[] before = look(x);
        x.trial(7, 0, 50);
        x.worst(7, 4, 50);
        x.best(4, 50);
        x.fits(2, 96);
        int[] behind = look(x);
        for (int k = 0; k < before.length; k++) {
            is("24: look " + k, behind[k], before[k]);
        }
        x.run(7);
        is("24: the RULES come as they would", x.came(0) * 10 + x.came(1), 36);
        is("24: the ACTS TAKEN too", x.now(0, 6), 50);
        is("24: done", x.count(4), 5);
    }

    private static int[] look(IceOut x) {
        int[] all = new int[80];
        int k = 0;
        for (int i = 0; i < 4; i++) {
            for (int what = 0; what <= 10; what++) {
                all[k++] = x.now(i, what);
            }
            all[k++] = x.crest(i, 0);
            all[k++] = x.crest(i, 1);
        }
        for (int what = 0; what <= 9; what++) {
            all[k++] = x.count(what);
        }
        for (int r = 0; r < 2; r++) {
            all[k++] = x.came(r);
            all[k++] = x.holds(r);
        }
        for (int h = 1; h <= 4; h++) {
            all[k++] = x.reading(0, h, 9);
        }
        return all;
    }

    /** What waits, then those TAKEN, then the PLAN's, then the RULES': by one of the CREWS. */
    private static void promise24Order() {
        IceOut x = new IceOut();
        x.cell(0, 3, 300, 10, 20);
        x.town(0, 1, 295, 0);
        x.town(1, 10, 195, 0);
        x.town(2, 100, 95, 0);
        x.town(3, 1000, 0, 0);
        x.cell(3, 4, 5, 10, 1);
        x.crews(1);
        x.plan(1, 2, 0);
        x.plan(1, 2, 1);
        Due.rule(x, 2, 3, 4, 1, 0);
        x.taken(2);
        x.act(2, 2);
        // HOUR 1: CELL 2, HOUR 2: CELL 1, HOUR 3: CELL 0, HOUR 4: CELL 3 (BANK 10: 5 isn't above).
        is("24: HOUR 1", x.trial(1, 0, 1), 1011);
        is("24: HOUR 2", x.trial(1, 0, 2), 1011 + 1001);
        is("24: HOUR 3", x.trial(1, 0, 3), 1011 + 1001 + 1000);
        is("24: HOUR 4", x.trial(1, 0, 4), 1011 + 1001 + 1000);
        is("24: without the PLAN", x.trial(0, 0, 3), 1011 + 1001 + 1);
    }

    private static void promise25() {
        IceOut x = towns();
        is("25: none planned", x.best(4, 5), 0);
        x.plan(5, 2, 1);
        x.plan(1, 2, 0);
        x.plan(1, 5, 0);
        x.plan(2, 5, 0);
        is("25: BAGS do it all in CELL 0", x.best(1, 5), 3);
        is("25: HOUR 5 is too late", x.best(1, 4), 2);
        is("25: 96", x.best(4, 96), 3);
        int[][] wrong = {{0, 5}, {5, 5}, {-1, 5}, {1, 0}, {1, 97}, {1, -1}};
        for (int[] w : wrong) {
            is("25: " + java.util.Arrays.toString(w), x.best(w[0], w[1]), IceOut.NONE);
        }
        // WEATHER 1 brings a flood over CELL 0's BAGS: there only MOVE helps.
        Due.weather(x, 1, new int[] {9999}, new int[] {0});
        is("25: by the worst of two", x.best(2, 4) & 12, 12);
        is("25: by the first alone", x.best(1, 4), 2);
        x.run(20);
        is("25: HARM of before counts nothing", x.best(1, 4), 2);
        is("25: HARM of before counts nothing", x.best(2, 4) & 12, 12);
        // Eight ACTS, each sparing 50 PEOPLE of 400.
        IceOut y = new IceOut();
        y.crews(6);
        y.town(0, 400, 0, 0);
        for (int k = 0; k < 8; k++) {
            y.plan(1 + k / 4, 5, 0);
        }
        is("25: all eight", y.best(4, 20), 255);
        is("25: the other four come behind it", y.best(4, 1), 15);
    }

    private static void promise25Ties() {
        IceOut x = towns();
        x.plan(1, 4 - 3, 0);
        x.plan(1, 2, 1);
        x.plan(1, 2, 0);
        x.plan(1, 2, 0);
        is("25: CREWS of 2: the fewest ACTS, then the least mask", x.best(1, 1), 6);
        x.planless();
        x.plan(1, 2, 0);
        x.plan(2, 2, 0);
        x.plan(1, 2, 0);
        is("25: the least mask of those that spare HOUR 1", x.best(1, 3), 1);
        x.planless();
        x.plan(2, 5, 2);
        x.plan(1, 5, 2);
        is("25: the least HARM comes first", x.best(1, 3), 2);
        IceOut y = new IceOut();
        for (int k = 0; k < 8; k++) {
            y.plan(1, 2, 0);
        }
        is("25: no HARM at all: none", y.best(4, 10), 0);
        // One ACT of greater mask does what two of lesser masks do.
        IceOut z = new IceOut();
        z.town(0, 50, 290, 0);
        z.plan(1, 5, 1);
        z.plan(1, 2, 0);
        z.plan(1, 2, 0);
        z.plan(1, 5, 0);
        is("25: two BAGS or one MOVE: both spare all", z.best(1, 5), 2);
        z.town(0, 50, 285, 0);
        is("25: fewer before the least mask", z.best(1, 5), 8);
        // Far on in a RUN without HARM: a TRIAL is measured by its own HARM, not by its HOURS.
        IceOut far = new IceOut();
        far.cell(1, 4, 2000, 1, 1);
        far.town(0, 1, 300, 0);
        Due.weather(far, 1, new int[] {10}, new int[] {0});
        far.plan(1, 2, 1);
        far.plan(2, 2, 0);
        far.run(50);
        is("25: HARM 5 without ACTS", far.worst(0, 2, 5), 5);
        is("25: HARM 1 by a BAG at the second HOUR", far.worst(2, 2, 5), 1);
        is("25: the BAG where it helps", far.best(2, 5), 2);
    }

    private static void promise26() {
        IceOut x = towns();
        x.plan(1, 2, 0);
        Due.weather(x, 2, new int[] {9999}, new int[] {0});
        is("26: 0 alone", x.worst(1, 1, 2), 22);
        is("26: 0 and 1", x.worst(1, 2, 2), 22);
        is("26: 0 to 2", x.worst(1, 3, 2), x.trial(1, 2, 2));
        is("26: 0 to 3", x.worst(1, 4, 2), x.trial(1, 2, 2));
        is("26: it is more", x.worst(1, 3, 2) > 22 ? 1 : 0, 1);
        is("26: no ACTS", x.worst(0, 1, 2), 222);
        int[][] wrong = {{-1, 1, 1}, {2, 1, 1}, {0, 0, 1}, {0, 5, 1}, {0, 1, 0}, {0, 1, 97}};
        for (int[] w : wrong) {
            is("26: " + java.util.Arrays.toString(w), x.worst(w[0], w[1], w[2]), IceOut.NONE);
        }
    }

    private static void promise27() {
        IceOut x = new IceOut();
        is("27: no ACT of none", x.taken(0), 0);
        is("27: no such set", x.taken(1), IceOut.NONE);
        x.plan(1, 2, 0);
        x.plan(3, 2, 1);
        x.plan(96, 2, 2);
        is("27: no such set", x.taken(8), IceOut.NONE);
        is("27: no such set", x.taken(-1), IceOut.NONE);
        x.run(1);
        is("27: two", x.taken(3), 2);
        is("27: one", x.taken(4), 1);
        is("27: the PLAN stays", x.count(6), 3);
        is("27: they don't wait as others do", x.count(3), 0);
        x.planless();
        x.run(1);
        is("27: HOUR 2", x.now(0, 5), 10);
        x.run(1);
        is("27: not at HOUR 3", x.now(1, 5), 0);
        is("27: it comes in a TRIAL as well", x.trial(0, 0, 2), 0);
        x.run(1);
        is("27: HOUR 4", x.now(1, 5), 10);
        x.run(92);
        is("27: not at HOUR 96", x.now(2, 5), 0);
        x.run(1);
        is("27: HOUR 97", x.now(2, 5), 10);
        for (int k = 0; k < 8; k++) {
            x.plan(5, 2, 3);
        }
        is("27: 8", x.taken(255), 8);
        is("27: 16", x.taken(255), 8);
        is("27: 23", x.taken(127), 7);
        is("27: 25 are too many", x.taken(3), IceOut.FULL);
        is("27: NONE first", x.taken(256), IceOut.NONE);
        is("27: 24", x.taken(128), 1);
        is("27: none more", x.taken(0), 0);
        is("27: FULL", x.taken(1), IceOut.FULL);
        is("27: TRIALS go on", x.trial(255, 0, 30), 0);
        x.run(6);
        is("27: 24 came, 4 are done", x.count(3), 20);
        is("27: and there is room again", x.taken(255), 8);
        x.again();
        x.run(120);
        is("27: again drops them", x.count(4), 0);
        IceOut y = new IceOut();
        y.plan(9, 2, 3);
        y.plan(4, 5, 2);
        y.plan(7, 2, 1);
        y.plan(2, 5, 0);
        y.town(0, 60, 4000, 0);
        y.town(2, 60, 4000, 0);
        y.taken(15);
        y.run(3);
        is("27: HOUR 2", y.now(0, 6), 10);
        y.run(3);
        is("27: HOUR 4", y.now(2, 6), 10);
        y.run(6);
        is("27: HOUR 9", y.now(3, 5), 10);
        is("27: HOUR 7", y.now(1, 5), 10);
    }

    private static void promise27Order() {
        IceOut x = new IceOut();
        x.cell(0, 3, 300, 10, 20);
        x.crews(1);
        x.plan(2, 3, 0);
        x.plan(1, 4, 0);
        Due.rule(x, 2, 0, 4, 2, 0);
        x.taken(1);
        x.run(1);
        x.taken(2);
        x.act(2, 1);
        // HOUR 2: the BAG by hand, then SHUT and OPEN, as they were TAKEN, then the RULE's BAG.
        x.run(1);
        is("27: by hand first", x.now(1, 5), 10);
        x.run(1);
        is("27: SHUT", x.now(0, 8), 1);
        x.run(1);
        is("27: OPEN", x.now(0, 8), 0);
        is("27: not yet", x.now(0, 5), 0);
        x.run(1);
        is("27: the RULE's last", x.now(0, 5), 10);
        // What comes beyond 40 is lost.
        IceOut y = new IceOut();
        y.plan(1, 2, 0);
        y.plan(1, 2, 1);
        y.taken(3);
        for (int k = 0; k < 39; k++) {
            y.act(2, 3);
        }
        y.run(25);
        is("27: the first of them had room", y.now(0, 5), 10);
        is("27: the second was lost", y.now(1, 5), 0);
        is("27: done", y.count(4), 40);
    }

    private static void promise28() {
        IceOut x = new IceOut();
        int[][] wrong = {{-1, 0, 1}, {4, 0, 1}, {0, -1, 1}, {0, 0, 10000}, {0, 2, 1}, {0, 10000, 10001}};
        for (int[] w : wrong) {
            is("28: " + java.util.Arrays.toString(w), x.mark(w[0], w[1], w[2]), IceOut.NONE);
        }
        is("28: a span of one", x.mark(0, 5, 5), 1);
        is("28: the widest", x.mark(3, 0, 9999), 2);
        for (int k = 3; k <= 10; k++) {
            is("28: mark", x.mark(0, 0, 1), k);
        }
        is("28: FULL", x.mark(0, 0, 1), IceOut.FULL);
        is("28: NONE first", x.mark(0, 1, 0), IceOut.NONE);
        is("28: MARKS", x.count(7), 10);
        x.again();
        is("28: they stay through again", x.count(7), 10);
    }

    private static void promise29() {
        IceOut x = new IceOut();
        is("29: no MARK", x.fits(0, 1), 1);
        x.mark(0, 300, 300);
        is("29: just so", x.fits(0, 5), 1);
        int[][] wrong = {{-1, 1}, {4, 1}, {0, 0}, {0, 97}, {0, -1}};
        for (int[] w : wrong) {
            is("29: " + java.util.Arrays.toString(w), x.fits(w[0], w[1]), IceOut.NONE);
        }
        // The INFLOW of HOUR 3 reaches CELL 1 at the same HOUR: 220 / 10.
        Due.weather(x, 1, new int[] {0, 0, 220, 0}, new int[] {0, 0, 0, 0});
        IceOut y = new IceOut();
        Due.weather(y, 1, new int[] {0, 0, 220, 0}, new int[] {0, 0, 0, 0});
        y.mark(1, 222, 222);
        is("29: not by HOUR 2", y.fits(1, 2), 0);
        is("29: by HOUR 3", y.fits(1, 3), 1);
        is("29: by HOUR 96", y.fits(1, 96), 1);
        is("29: another WEATHER", y.fits(0, 96), 0);
        y.mark(1, 222, 222);
        y.mark(0, 0, 299);
        is("29: each of them", y.fits(1, 3), 0);
        IceOut z = new IceOut();
        Due.weather(z, 1, new int[] {0, 0, 220, 0}, new int[] {0, 0, 0, 0});
        z.mark(1, 221, 221);
        is("29: above the span", z.fits(1, 3), 0);
        z.mark(1, 223, 223);
        is("29: below the span", z.fits(1, 3), 0);
    }

    private static void promise29FromTheStart() {
        IceOut x = new IceOut();
        x.fill(0, 100, 0);
        x.town(0, 0, 4000, 100);
        x.mark(1, 210, 210);
        is("29: all 100 go", x.fits(0, 4), 1);
        x.act(6, 0);
        is("29: no waiting ACTS", x.fits(0, 4), 1);
        x.plan(1, 6, 0);
        x.taken(1);
        is("29: none TAKEN", x.fits(0, 4), 1);
        Due.rule(x, 6, 0, 4, 0, 0);
        is("29: no RULES", x.fits(0, 4), 1);
        x.run(50);
        is("29: the ACT was done in THE RUN", x.now(0, 7), 0);
        is("29: from the START", x.fits(0, 4), 1);
        is("29: THE RUN stays", x.count(1), 50);
        x.gauge(0, 0);
        x.run(3);
        int reading = x.reading(0, 52, 99);
        x.fits(0, 96);
        is("29: readings stay", x.reading(0, 52, 99), reading);
        is("29: readings stay", reading, 300);
    }
}
