/**
 * Sections II to IV, sentence by sentence where one names an edge: the last case on the one side
 * and the first on the other.
 */
final class EdgesTest {
    private static final Due DUE = new Due("EdgesTest");

    public static void main(String[] args) {
        actsComeFirst();
        flowByFall();
        flowByWater();
        flowBySheetAndJam();
        flowOfGates();
        frost();
        frostUnderIce();
        thaw();
        breaking();
        drift();
        driftMost();
        driftBelowSheets();
        letsGo();
        letsGoInto();
        wet();
        crests();
        crews();
        comesInOrder();
        gates();
        clearing();
        gaugesKnown();
        gaugesWithGaps();
        ordersOfReadings();
        ordersOfRises();
        ordersOfEyes();
        ordersOfHours();
        ordersOfTemperatures();
        whatIsNotThere();
        faults();
        faultsOfStacks();
        mendsKnown();
        rulesComeOnce();
        trialHours();
        bestOfTies();
        fitsEachCrest();
        states();
        DUE.end();
    }

    private static void is(String call, long got, long want) {
        DUE.is(call, got, want);
    }

    private static void weather(IceOut x, int inflow, int warmth) {
        Due.weather(x, 0, new int[] {inflow}, new int[] {warmth});
    }

    /** CELL 0 as told, with WATER and a SHEET, above a LAKE with a BED of its own that hardly rises. */
    private static IceOut pair(int kind, int bed, int pass, int water, int sheet, int lakeBed) {
        IceOut x = new IceOut();
        x.begin(2);
        x.cell(0, kind, bed, 1, pass);
        x.fill(0, water, sheet);
        x.cell(1, 4, lakeBed, 100, 1);
        x.sea(4000);
        return x;
    }

    private static int flow(IceOut x) {
        x.run(1);
        return x.now(0, 10);
    }

    // ---- II

    /** "First the ACTS", then "WATER of CELL 0 grows by the INFLOW". */
    private static void actsComeFirst() {
        IceOut x = pair(4, 0, 1, 0, 0, 2000);
        x.town(0, 0, 4000, 50);
        weather(x, 30, 0);
        x.act(6, 0);
        x.run(1);
        is("LET ahead of the INFLOW finds nothing", x.now(0, 7), 50);
        is("the INFLOW stays", x.now(0, 1), 30);
        x.act(6, 0);
        x.run(1);
        is("LET finds what came the HOUR before", x.now(0, 7), 20);
        is("and the next INFLOW", x.now(0, 1), 30);
        IceOut y = new IceOut();
        weather(y, 30, 0);
        y.run(1);
        is("the INFLOW goes to CELL 0 and flows at once", y.now(0, 10), 30);
        is("to no other", y.now(2, 1) + y.now(3, 1), 0);
    }

    /** "0 if FALL isn't above 0"; "all divisions to the greatest whole number not above". */
    private static void flowByFall() {
        is("FALL -1", flow(pair(4, 99, 100, 900, 0, 1000)), 0);
        is("FALL 0", flow(pair(4, 100, 100, 900, 0, 1000)), 0);
        is("FALL 1", flow(pair(4, 101, 100, 900, 0, 1000)), 10);
        is("FALL 1 x 9 / 10", flow(pair(4, 101, 9, 900, 0, 1000)), 0);
        is("FALL 1 x 10 / 10", flow(pair(4, 101, 10, 900, 0, 1000)), 1);
        is("FALL 1 x 19 / 10", flow(pair(4, 101, 19, 900, 0, 1000)), 1);
        is("FALL 1 x 20 / 10", flow(pair(4, 101, 20, 900, 0, 1000)), 2);
        // To THE SEA.
        for (int sea = 49; sea <= 51; sea++) {
            IceOut x = new IceOut();
            x.fill(3, 500, 0);
            x.sea(sea);
            x.run(1);
            is("THE SEA at " + sea, x.now(3, 10), sea == 49 ? 2 : 0);
        }
        IceOut x = new IceOut();
        x.cell(3, 0, 2000, 1, 100);
        x.fill(3, 2000, 0);
        x.sea(4000);
        x.run(1);
        is("THE SEA at 4000", x.now(3, 10), 0);
        IceOut y = new IceOut();
        y.cell(3, 0, 2000, 1, 100);
        y.fill(3, 2001, 0);
        y.sea(4000);
        y.run(1);
        is("THE SEA at 4000, FALL 1", y.now(3, 10), 10);
    }

    /** "The least of its WATER and ..." */
    private static void flowByWater() {
        is("29 of 30", flow(pair(0, 300, 1, 29, 0, 29)), 29);
        is("30 of 30", flow(pair(0, 300, 1, 30, 0, 30)), 30);
        is("30 of 31", flow(pair(0, 300, 1, 31, 0, 31)), 30);
        is("none", flow(pair(0, 300, 100, 0, 0, 0)), 0);
        is("the most", flow(pair(0, 2000, 100, 200000, 0, 0)), 200000);
        IceOut x = pair(0, 300, 1, 30, 0, 30);
        x.run(1);
        is("nothing is left", x.now(0, 1), 0);
        is("it went down", x.now(1, 1), 30);
    }

    /** 10, and JAM, and 20 if it has a SHEET. */
    private static void flowBySheetAndJam() {
        is("99 / 10", flow(pair(4, 0, 1, 99, 0, 0)), 9);
        is("100 / 10", flow(pair(4, 0, 1, 100, 0, 0)), 10);
        is("299 / 30", flow(pair(4, 0, 1, 299, 1, 0)), 9);
        is("300 / 30", flow(pair(4, 0, 1, 300, 1, 0)), 10);
        is("299 / 30, a thick one", flow(pair(4, 0, 1, 299, 200, 0)), 9);
        is("300 / 30, a thick one", flow(pair(4, 0, 1, 300, 200, 0)), 10);
        is("109 / (10 + 100)", flow(jammed(1109)), 99);
        is("110 / (10 + 100)", flow(jammed(1110)), 100);
        // A SHEET over which FLOES came by a JAM that let go: 10 + 20 + JAM.
        IceOut x = new IceOut();
        x.begin(3);
        x.cell(0, 0, 1000, 1, 100);
        x.fill(0, 100, 20);
        x.cell(1, 0, 500, 100, 32);
        x.fill(1, 1000, 5);
        x.cell(2, 4, 480, 100, 1);
        x.fill(2, 0, 1);
        x.sea(4000);
        x.act(0, 0);
        x.run(1);
        is("they came below the SHEET", x.now(1, 3), 20);
        is("30 x 32 / 30", x.now(1, 10), 32);
        x.run(1);
        is("32 / 5 jam", x.now(1, 4), 6);
        is("the SHEET is there", x.now(1, 2), 5);
        x.run(1);
        is("30 x 32 / (10 + 6 + 20)", x.now(1, 10), 26);
        is("26 / 5 more", x.now(1, 4), 11);
    }

    /** A BRIDGE with a JAM of 100 and no WATER, at 100, its next at 1100; an INFLOW comes. */
    private static IceOut jammed(int inflow) {
        IceOut x = new IceOut();
        x.begin(3);
        x.cell(0, 2, 100, 1, 100);
        x.cell(1, 4, 100, 1, 1);
        x.cell(2, 4, 2000, 1, 1);
        x.fill(0, 1000, 120);
        x.act(0, 0);
        x.run(1);
        is("a JAM of 100", x.now(0, 4), 100);
        weather(x, inflow, 0);
        return x;
    }

    /** "Or it is a GATE that is shut." */
    private static void flowOfGates() {
        IceOut x = pair(3, 100, 10, 900, 0, 0);
        is("open at the START", flow(x), 900);
        x.again();
        x.act(3, 0);
        is("shut", flow(x), 0);
        x.act(4, 0);
        is("open", flow(x), 900);
        IceOut y = pair(3, 100, 10, 900, 0, 0);
        y.act(3, 0);
        y.act(4, 0);
        is("shut and opened in one HOUR", flow(y), 900);
        y.again();
        y.act(4, 0);
        y.act(3, 0);
        is("opened and shut in one HOUR", flow(y), 0);
    }

    private static int sheetAfter(int sheet, int warmth) {
        IceOut x = pair(4, 0, 1, 0, sheet, 2000);
        weather(x, 0, warmth);
        x.run(1);
        return x.now(0, 2);
    }

    /** "Grows by -t / (5 + SHEET / 10) (200 at most)." */
    private static void frost() {
        int[][] rows = {
            {0, 0, 0}, {0, -1, 0}, {0, -4, 0}, {0, -5, 1}, {0, -9, 1}, {0, -10, 2}, {0, -29, 5}, {0, -30, 6},
            {9, -5, 10}, {10, -5, 10}, {10, -6, 11}, {19, -6, 20}, {20, -6, 20}, {20, -7, 21}, {99, -14, 100},
            {99, -13, 99}, {100, -14, 100}, {100, -15, 101}, {190, -23, 190}, {190, -24, 191}, {198, -30, 199},
            {199, -30, 200}, {200, -30, 200}, {200, -25, 200}, {200, -1, 200}, {150, -20, 151}, {150, -19, 150},
            {195, -30, 196},
        };
        for (int[] r : rows) {
            is("SHEET " + r[0] + " by " + r[1], sheetAfter(r[0], r[1]), r[2]);
        }
        // "A CELL that gets one: FROZEN is its LEVEL then": behind the FLOW, not at the START.
        IceOut x = pair(0, 100, 1, 105, 0, 105);
        weather(x, 0, -5);
        x.run(1);
        is("FALL 100 x 1 / 10", x.now(0, 10), 10);
        is("FROZEN behind the FLOW", x.now(0, 9), 195);
        IceOut y = pair(0, 100, 1, 105, 0, 105);
        weather(y, 0, -4);
        y.run(1);
        is("no SHEET, no FROZEN", y.now(0, 9), -2);
        weather(y, 0, -5);
        y.run(1);
        is("FROZEN when it comes", y.now(0, 9), y.now(0, 0));
        // One that melts and comes anew is FROZEN anew.
        IceOut z = pair(4, 0, 1, 50, 7, 2000);
        is("at the START", z.now(0, 9), 50);
        Due.weather(z, 0, new int[] {3, 3, 3}, new int[] {28, -5, -5});
        z.run(1);
        is("melted", z.now(0, 9), -2);
        z.run(1);
        is("anew", z.now(0, 9), 56);
        z.run(1);
        is("it stays so", z.now(0, 9), 56);
        is("though the LEVEL rises", z.now(0, 0), 59);
    }

    /** "In each CELL without FLOES and JAM." */
    private static void frostUnderIce() {
        // FLOES alone: a CUT in a LAKE.
        IceOut x = pair(4, 0, 1, 0, 15, 2000);
        weather(x, 0, -30);
        x.act(0, 0);
        x.run(1);
        is("FLOES", x.now(0, 3), 15);
        is("no SHEET over FLOES", x.now(0, 2), 0);
        // A JAM alone.
        IceOut y = jammed(0);
        is("no FLOES", y.now(0, 3), 0);
        weather(y, 0, -30);
        y.run(1);
        is("no SHEET over a JAM", y.now(0, 2), 0);
        // A SHEET over FLOES neither grows, nor is it kept from melting.
        IceOut z = new IceOut();
        z.begin(3);
        z.cell(0, 0, 1000, 1, 100);
        z.fill(0, 100, 20);
        z.cell(1, 4, 500, 100, 1);
        z.fill(1, 0, 9);
        z.cell(2, 4, 2000, 1, 1);
        z.act(0, 0);
        z.run(1);
        is("FLOES below a SHEET", z.now(1, 3), 20);
        Due.weather(z, 0, new int[] {0, 0, 0}, new int[] {0, -30, 4});
        z.run(1);
        is("it doesn't grow", z.now(1, 2), 9);
        is("another does", z.now(2, 2), 6);
        z.run(1);
        is("it melts", z.now(1, 2), 8);
    }

    /** "Each SHEET falls by t / 4, to 0 at least." */
    private static void thaw() {
        int[][] rows = {
            {50, 0, 50}, {50, 1, 50}, {50, 3, 50}, {50, 4, 49}, {50, 7, 49}, {50, 8, 48}, {50, 27, 44},
            {50, 28, 43}, {50, 30, 43}, {7, 28, 0}, {6, 28, 0}, {8, 28, 1}, {1, 4, 0}, {1, 3, 1}, {0, 30, 0},
            {200, 30, 193},
        };
        for (int[] r : rows) {
            is("SHEET " + r[0] + " by " + r[1], sheetAfter(r[0], r[1]), r[2]);
        }
    }

    private static int broken(int kind, int sheet, int rise, int warmth) {
        IceOut x = pair(kind, 0, 1, 40, sheet, 2000);
        weather(x, rise, warmth);
        x.run(1);
        is("what broke is FLOES", x.now(0, 3) > 0 ? x.now(0, 2) : 0, 0);
        return x.now(0, 3);
    }

    /** "BREAKS if its LEVEL (now) is FROZEN + 10 + SHEET or more." */
    private static void breaking() {
        int[] sheets = {1, 14, 15, 100, 200};
        for (int sheet : sheets) {
            is("one below", broken(0, sheet, 10 + sheet - 1, 0), 0);
            is("just so", broken(0, sheet, 10 + sheet, 0), sheet);
            is("one above", broken(0, sheet, 10 + sheet + 1, 0), sheet);
        }
        for (int kind = 0; kind <= 4; kind++) {
            is("KIND " + kind, broken(kind, 20, 29, 0), 0);
            is("KIND " + kind, broken(kind, 20, 30, 0), kind == 4 ? 0 : 20);
        }
        is("by the SHEET when it has grown", broken(0, 20, 33, -30), 0);
        is("by the SHEET when it has grown", broken(0, 20, 34, -30), 24);
        is("by the SHEET when it has melted", broken(0, 20, 22, 28), 0);
        is("by the SHEET when it has melted", broken(0, 20, 23, 28), 13);
        is("what has melted doesn't break", broken(0, 7, 900, 28), 0);
        is("no SHEET", broken(0, 0, 900, 0), 0);
        // "Its LEVEL (now)": behind the FLOW.
        IceOut x = pair(0, 100, 15, 40, 20, 0);
        weather(x, 30, 0);
        x.run(1);
        // LEVEL 170 x 15 / 30 = 85: all 70 go.
        is("it rose and fell", x.now(0, 2), 20);
        is("it rose and fell", x.now(0, 3), 0);
        // What broke at (d) drifts at (e) in the same HOUR.
        IceOut y = pair(0, 100, 1, 1000, 20, 0);
        weather(y, 300, 0);
        y.run(1);
        is("FLOW 1400 / 30", y.now(0, 10), 46);
        is("46 / 5 of 20 drift at once", y.now(1, 3), 9);
        is("11 are left", y.now(0, 3), 11);
    }

    /** FLOES in CELL 0, WATER of it all flows: what comes to the next. */
    private static IceOut drifted(int kind, int floes, int flow) {
        IceOut x = new IceOut();
        x.begin(3);
        x.cell(0, kind, 1000, 1, 100);
        x.fill(0, flow, floes);
        x.cell(1, 4, 1000, 1, 1);
        x.cell(2, 4, 2000, 1, 1);
        x.fill(2, 200000, 0);
        x.act(0, 0);
        x.run(1);
        is("FLOW", x.now(0, 10), flow);
        is("none are lost", x.count(8), floes);
        return x;
    }

    /** "m is the least of its FLOES and FLOW / 5." */
    private static void drift() {
        int[][] rows = {
            {20, 0, 0}, {20, 4, 0}, {20, 5, 1}, {20, 9, 1}, {20, 10, 2}, {20, 99, 19}, {20, 100, 20},
            {20, 104, 20}, {20, 105, 20}, {20, 900, 20},
        };
        for (int[] r : rows) {
            IceOut x = drifted(0, r[0], r[1]);
            is("FLOW " + r[1] + " takes", x.now(1, 3), r[2]);
            is("FLOW " + r[1] + " leaves", x.now(0, 3), r[0] - r[2]);
            is("FLOW " + r[1] + " jams", x.now(0, 4), 0);
        }
        // "Of each CELL that is no LAKE."
        IceOut x = drifted(4, 20, 900);
        is("a LAKE keeps all", x.now(0, 3), 20);
        is("a LAKE's don't jam", x.now(0, 4), 0);
    }

    /** "The least of m and 200 (REACH), 40 (BEND), 20 (BRIDGE), 30 (GATE that is open; 0 if shut)." */
    private static void driftMost() {
        int[] most = {0, 40, 20, 30};
        for (int kind = 1; kind <= 3; kind++) {
            for (int m = most[kind] - 1; m <= most[kind] + 1; m++) {
                IceOut x = drifted(kind, m, 2000);
                is("KIND " + kind + ", " + m + " pass", x.now(1, 3), Math.min(m, most[kind]));
                is("KIND " + kind + ", " + m + " jam", x.now(0, 4), Math.max(0, m - most[kind]));
                is("KIND " + kind + ", " + m + " stay", x.now(0, 3), 0);
            }
        }
        int[] waters = {994, 995, 999, 1000, 1004, 1005, 1010};
        for (int water : waters) {
            IceOut x = gathered(water);
            is("REACH, FLOW " + water + " pass", x.now(2, 3), Math.min(200, water / 5));
            is("REACH, FLOW " + water + " jam", x.now(1, 4), Math.max(0, water / 5 - 200));
            is("REACH, FLOW " + water + " stay", x.now(1, 3), 220 - water / 5);
        }
        IceOut x = new IceOut();
        x.begin(2);
        x.cell(0, 3, 1000, 1, 100);
        x.fill(0, 2000, 60);
        x.act(0, 0);
        x.act(3, 0);
        x.run(1);
        is("shut: none pass", x.now(1, 3), 0);
        is("shut: none jam", x.now(0, 4), 0);
        is("shut: all stay", x.now(0, 3), 60);
    }

    /** A REACH in the middle with 220 FLOES from two SHEETS, and then a FLOW. */
    private static IceOut gathered(int flow) {
        IceOut x = new IceOut();
        x.begin(3);
        x.cell(0, 0, 2000, 1, 100);
        x.fill(0, flow, 60);
        x.cell(1, 0, 1000, 1, 100);
        x.fill(1, 0, 160);
        x.cell(2, 4, 1000, 1, 1);
        x.sea(4000);
        x.act(0, 0);
        x.act(0, 1);
        x.run(1);
        is("220 FLOES", x.now(1, 3), 220);
        x.run(1);
        is("FLOW", x.now(1, 10), flow);
        return x;
    }

    /** "0 if that has a SHEET": of the next CELL, as it is behind (c) and (d); THE SEA has none. */
    private static void driftBelowSheets() {
        is("a SHEET of 1", below(1, 0), 0);
        is("none", below(0, 0), 20);
        is("a SHEET that melts first", below(1, 4), 20);
        is("a SHEET that doesn't", below(1, 3), 0);
        is("a SHEET that comes first", below(0, -5), 0);
        is("none comes", below(0, -4), 20);
        IceOut x = new IceOut();
        x.begin(2);
        x.cell(1, 0, 1000, 1, 100);
        x.fill(1, 100, 20);
        x.act(0, 1);
        weather(x, 0, -30);
        x.run(1);
        is("THE SEA has no SHEET", x.count(8), 0);
        // One that breaks in this HOUR is a SHEET no more: 500 of WATER over an AREA of 10.
        IceOut y = new IceOut();
        y.begin(3);
        y.cell(0, 0, 1000, 1, 100);
        y.fill(0, 500, 20);
        y.cell(1, 0, 500, 10, 1);
        y.fill(1, 0, 40);
        y.cell(2, 4, 2000, 1, 1);
        y.act(0, 0);
        y.run(1);
        is("below one that broke", y.now(1, 3), 60);
        IceOut z = new IceOut();
        z.begin(3);
        z.cell(0, 0, 1000, 1, 100);
        z.fill(0, 499, 20);
        z.cell(1, 0, 500, 10, 1);
        z.fill(1, 0, 40);
        z.cell(2, 4, 2000, 1, 1);
        z.act(0, 0);
        z.run(1);
        is("below one that held: the JAM let go", z.now(1, 3), 20);
        is("it holds", z.now(1, 2), 40);
    }

    /** FLOES that passed into a LAKE at the same LEVEL with such a SHEET: the rest is a JAM. */
    private static int below(int sheet, int warmth) {
        IceOut x = new IceOut();
        x.begin(3);
        x.cell(0, 0, 1000, 1, 100);
        x.fill(0, 2000, 20);
        x.cell(1, 4, 1000, 1, 1);
        x.fill(1, 0, sheet);
        x.cell(2, 4, 2000, 1, 1);
        x.fill(2, 9000, 0);
        x.act(0, 0);
        weather(x, 0, warmth);
        x.run(1);
        is("pass or jam", x.now(0, 4) + x.now(1, 3), 20);
        return x.now(1, 3);
    }

    /** A BRIDGE with a JAM behind an HOUR with such a FALL: what is left of it. */
    private static int held(int jam, int fall, int warmth) {
        IceOut x = new IceOut();
        x.begin(2);
        x.cell(0, 4, 0, 1, 1);
        x.cell(1, 2, 1000 + fall, 1, 100);
        x.sea(1000);
        x.fill(1, 900, 20 + jam);
        x.act(0, 1);
        weather(x, 0, warmth);
        x.run(1);
        is("all the WATER went", x.now(1, 1), 0);
        is("of the last one: gone", x.count(8), x.now(1, 4));
        return x.now(1, 4);
    }

    /** "FALL is above 30 + 2 JAM (and 20 besides if t is below 0) LETS GO." */
    private static void letsGo() {
        int[] jams = {1, 2, 35, 100, 160};
        for (int jam : jams) {
            int hold = 30 + 2 * jam;
            is("just so", held(jam, hold, 0), jam);
            is("one above", held(jam, hold + 1, 0), 0);
            is("just so at 1", held(jam, hold, 1), jam);
            is("one above at 1", held(jam, hold + 1, 1), 0);
            is("just so at -1", held(jam, hold + 20, -1), jam);
            is("one above at -1", held(jam, hold + 21, -1), 0);
            is("just so at -30", held(jam, hold + 20, -30), jam);
        }
    }

    /** "It becomes FLOES of the next CELL", whatever that is, behind all drifting. */
    private static void letsGoInto() {
        for (int kind = 0; kind <= 4; kind++) {
            IceOut x = new IceOut();
            x.begin(3);
            x.cell(0, 2, 1000, 1, 100);
            x.fill(0, 150, 30);
            x.cell(1, kind, 500, 1, 100);
            x.cell(2, 4, 0, 1, 1);
            x.act(0, 0);
            x.run(1);
            is("20 drifted, 10 let go", x.now(1, 3), 30);
            is("none further", x.now(2, 3), 0);
            is("no JAM", x.now(0, 4) + x.now(1, 4), 0);
        }
        // Two at once: the upper one's becomes FLOES, and doesn't go two CELLS far.
        IceOut x = new IceOut();
        x.begin(3);
        x.cell(0, 2, 2000, 1, 100);
        x.fill(0, 150, 30);
        x.cell(1, 2, 1000, 1, 100);
        x.fill(1, 155, 31);
        x.cell(2, 4, 0, 1, 1);
        x.act(0, 0);
        x.act(0, 1);
        x.run(1);
        is("20 and 10 from above", x.now(1, 3), 30);
        is("no JAM", x.now(1, 4), 0);
        is("20 and 11 to the last", x.now(2, 3), 31);
        // Into a CELL with a SHEET too: all of m jams first, and then it goes.
        IceOut y = new IceOut();
        y.begin(2);
        y.cell(0, 0, 1000, 1, 100);
        y.fill(0, 100, 20);
        y.cell(1, 4, 0, 100, 1);
        y.fill(1, 0, 200);
        y.act(0, 0);
        y.run(1);
        is("below a SHEET", y.now(1, 3), 20);
        is("the SHEET stays", y.now(1, 2), 200);
    }

    /** "A CELL whose LEVEL is above BANK + BAGS." */
    private static void wet() {
        for (int bank = 299; bank <= 301; bank++) {
            IceOut x = new IceOut();
            x.town(0, 9, bank, 0);
            is("BANK " + bank, x.run(1), bank < 300 ? 9 : 0);
        }
        for (int bags = 0; bags <= 10; bags++) {
            IceOut x = new IceOut();
            x.crews(6);
            x.town(0, 9, 250, 0);
            for (int k = 0; k < bags; k++) {
                x.act(2, 0);
            }
            is("BANK 250 and BAGS " + 10 * bags, x.run(2), bags < 5 ? 18 : 0);
        }
        IceOut x = new IceOut();
        x.town(0, 49, 0, 0);
        x.act(5, 0);
        is("no PEOPLE, no HARM", x.run(1), 0);
        IceOut y = new IceOut();
        y.begin(24);
        for (int i = 0; i < 24; i++) {
            y.town(i, 9999, 0, 0);
            y.fill(i, 200000, 0);
        }
        is("all of them", y.run(1), 24 * 9999);
    }

    /** "Its greatest LEVEL at the end of an HOUR, and the first such HOUR." */
    private static void crests() {
        IceOut x = pair(4, 0, 1, 100, 0, 2000);
        x.town(0, 0, 4000, 5);
        int[] inflows = {0, 3, 0, 0, 5, 0};
        Due.weather(x, 0, inflows, new int[6]);
        int[] levels = {100, 103, 98, 98, 103, 103};
        int[] hours = {1, 2, 2, 2, 2, 2};
        for (int h = 0; h < 6; h++) {
            if (h == 2) {
                x.act(6, 0);
            }
            x.run(1);
            is("LEVEL at " + (h + 1), x.now(0, 0), levels[h]);
            is("CREST at " + (h + 1), x.crest(0, 0), Math.max(x.now(0, 0), h > 0 ? 103 : 100));
            is("HOUR of it at " + (h + 1), x.crest(0, 1), hours[h]);
        }
        weather(x, 1, 0);
        x.run(1);
        is("one higher", x.crest(0, 0), 104);
        is("its HOUR", x.crest(0, 1), 7);
        // LEVEL 0 is a CREST as well; the START's LEVEL isn't one.
        IceOut y = new IceOut();
        y.run(1);
        is("LEVEL 0", y.crest(3, 0), 0);
        is("LEVEL 0, HOUR", y.crest(3, 1), 1);
        y.again();
        y.fill(0, 1000, 0);
        y.run(1);
        is("400 flowed in HOUR 1", y.crest(0, 0), 360);
    }

    // ---- III

    /** "CREWS of them an HOUR; what is left waits"; "each takes its turn, also if it does nothing". */
    private static void crews() {
        for (int crews = 1; crews <= 6; crews++) {
            for (int n = 0; n <= 13; n++) {
                IceOut x = new IceOut();
                x.crews(crews);
                for (int k = 0; k < n; k++) {
                    x.act(k % 2 == 0 ? 1 : 2, 0);
                }
                x.run(1);
                int done = Math.min(crews, n);
                is("done by " + crews, x.count(4), done);
                is("left by " + crews, x.count(3), n - done);
                is("BAGS by " + crews, x.now(0, 5), 10 * (done / 2));
                x.run(1);
                is("the next HOUR", x.count(4), Math.min(2 * crews, n));
            }
        }
    }

    /** What waits, by hand, TAKEN, RULES in order; and in a TRIAL the PLAN ahead of the RULES. */
    private static void comesInOrder() {
        IceOut x = pair(3, 100, 10, 900, 0, 0);
        x.crews(1);
        x.plan(1, 4, 0);
        x.plan(1, 3, 0);
        Due.rule(x, 4, 0, 4, 1, 0);
        Due.rule(x, 3, 0, 4, 1, 0);
        x.taken(2);
        x.act(2, 0);
        int[] shut = {0, 1, 0, 1, 1};
        for (int h = 0; h < shut.length; h++) {
            x.run(1);
            is("BAG, SHUT, OPEN, SHUT at HOUR " + (h + 1), x.now(0, 8), shut[h]);
            is("all but the first wait", x.count(3), Math.max(0, 3 - h));
        }
        // Of what comes at a later HOUR nothing gets ahead of what waits.
        IceOut y = pair(3, 100, 10, 900, 0, 0);
        y.crews(1);
        y.act(2, 0);
        y.act(3, 0);
        y.plan(2, 4, 0);
        y.taken(1);
        y.run(1);
        y.run(1);
        is("SHUT first", y.now(0, 8), 1);
        y.act(2, 0);
        y.run(1);
        is("OPEN came ahead of the BAG", y.now(0, 8), 0);
        is("the BAG waits", y.now(0, 5), 10);
    }

    private static void gates() {
        IceOut x = pair(3, 100, 10, 900, 0, 0);
        x.act(4, 0);
        x.run(1);
        is("OPEN an open one", x.now(0, 8), 0);
        x.act(3, 0);
        x.act(3, 0);
        x.run(1);
        is("SHUT a shut one", x.now(0, 8), 1);
        is("all were done", x.count(4), 3);
    }

    private static void clearing() {
        IceOut x = jammed(0);
        x.act(1, 0);
        x.act(1, 0);
        x.act(1, 1);
        x.run(2);
        is("CLEAR: no JAM", x.now(0, 4), 0);
        is("CLEAR: FLOES", x.now(0, 3), 100);
        is("CLEAR what isn't there", x.now(1, 4), 0);
        is("all were done", x.count(4), 4);
    }

    /** CELL 0 rises by 1 from 100 on: at the end of HOUR h its LEVEL is 100 + h. */
    private static IceOut rising(int lag, int hours) {
        IceOut x = pair(0, 100, 1, 0, 0, 2000);
        weather(x, 1, 0);
        x.gauge(0, lag);
        x.run(hours);
        return x;
    }

    private static int holds(IceOut x, long... words) {
        x.ruleless();
        return x.holds(Due.rule(x, 2, 0, words));
    }

    /** "KNOWN from the HOUR that is LAG (0 .. 6) later on ... if that is above the HOUR itself". */
    private static void gaugesKnown() {
        for (int lag = 0; lag <= 6; lag++) {
            int late = Math.max(1, lag);
            for (int hours = 1; hours <= 8; hours++) {
                IceOut x = rising(lag, hours);
                // At the ACTS of HOUR hours + 1 the newest is that of HOUR hours + 1 - late.
                int newest = hours + 1 - late;
                for (int h = 1; h <= hours; h++) {
                    is("LAG " + lag, x.reading(0, h, hours + 1), h <= newest ? 100 + h : IceOut.NONE);
                }
                is("LAG " + lag + ": one is KNOWN", holds(x, 1, 0, 10, 0), newest >= 1 ? 1 : 0);
                is("LAG " + lag + ": two are KNOWN", holds(x, 2, 0, 1, 0), newest >= 2 ? 1 : 0);
            }
        }
        // A LAG told anew counts for what is read from then on; the newest is by its HOUR.
        IceOut x = rising(6, 2);
        x.gauge(0, 1);
        x.run(1);
        is("HOUR 3 ahead of HOUR 1", x.reading(0, 3, 4), 103);
        is("HOUR 1 by its LAG", x.reading(0, 1, 6), IceOut.NONE);
        is("HOUR 1 by its LAG", x.reading(0, 1, 7), 101);
        is("no next older one", holds(x, 2, 0, 0, 0), 0);
        x.gauge(0, -1);
        x.run(3);
        is("HOUR 1 is KNOWN at 7", holds(x, 2, 0, 2, 0), 1);
        is("HOUR 1 is KNOWN at 7", holds(x, 2, 0, 3, 0), 0);
        x.run(1);
        is("HOUR 2 is KNOWN at 8", holds(x, 2, 0, 1, 0), 1);
        is("HOUR 2 is KNOWN at 8", holds(x, 2, 0, 2, 0), 0);
    }

    /** HOUR 3 isn't KNOWN yet, HOUR 2 was not read: HOUR 1 is the newest. */
    private static void gaugesWithGaps() {
        IceOut x = pair(0, 100, 1, 0, 0, 2000);
        weather(x, 10, 0);
        x.gauge(0, 6);
        x.run(1);
        x.gauge(0, -1);
        x.run(1);
        x.gauge(0, 6);
        x.run(1);
        x.gauge(0, -1);
        x.run(2);
        is("none is KNOWN at 6", holds(x, 1, 0, 0, 0), 0);
        x.run(1);
        is("HOUR 1 is KNOWN at 7: 110", holds(x, 1, 0, 11, 0), 1);
        is("HOUR 1 is KNOWN at 7: 110", holds(x, 1, 0, 12, 0), 0);
        x.run(1);
        is("still at 8", holds(x, 1, 0, 12, 0), 0);
        is("none is older", holds(x, 2, 0, 0, 0), 0);
        x.run(1);
        is("HOUR 3 is KNOWN at 9: 130", holds(x, 1, 0, 13, 0), 1);
        is("HOUR 1 is next older", holds(x, 2, 0, 20, 0), 1);
        is("HOUR 1 is next older", holds(x, 2, 0, 21, 0), 0);
    }

    /** "1 c v: ... is 10 v or more." */
    private static void ordersOfReadings() {
        int[][] rows = {
            {0, 0}, {1, 0}, {1, 9}, {1, 10}, {1, 11}, {10, 99}, {10, 100}, {10, 101}, {127, 1269}, {127, 1270},
            {127, 9999}, {0, 9999},
        };
        for (int[] r : rows) {
            IceOut x = new IceOut();
            x.run(1);
            x.mend(2, 1, r[1]);
            is("a reading of " + r[1] + " by " + r[0], holds(x, 1, 2, r[0], 0), r[1] >= 10 * r[0] ? 1 : 0);
        }
    }

    /** "2 c v: it is v or more above the KNOWN one next older." */
    private static void ordersOfRises() {
        int[][] rows = {
            {0, 50, 50}, {0, 50, 49}, {0, 50, 51}, {1, 50, 50}, {1, 50, 51}, {127, 0, 126}, {127, 0, 127},
            {127, 0, 9999}, {0, 9999, 0}, {1, 9999, 0}, {0, 0, 0},
        };
        for (int[] r : rows) {
            IceOut x = new IceOut();
            x.run(9);
            x.mend(1, 2, r[1]);
            x.mend(1, 7, r[2]);
            is("from " + r[1] + " to " + r[2] + " by " + r[0], holds(x, 2, 1, r[0], 0), r[2] - r[1] >= r[0] ? 1 : 0);
            // Told in the other order it is the same: by its HOUR.
            IceOut y = new IceOut();
            y.run(9);
            y.mend(1, 7, r[2]);
            y.mend(1, 2, r[1]);
            is("told the other way round", holds(y, 2, 1, r[0], 0), r[2] - r[1] >= r[0] ? 1 : 0);
        }
        // Next older, with others older still.
        IceOut x = new IceOut();
        x.run(9);
        x.mend(1, 1, 9);
        x.mend(1, 3, 60);
        x.mend(1, 9, 70);
        is("10 above HOUR 3", holds(x, 2, 1, 10, 0), 1);
        is("not above HOUR 1", holds(x, 2, 1, 11, 0), 0);
    }

    private static void ordersOfEyes() {
        IceOut x = jammed(0);
        is("a JAM but no EYE", holds(x, 3, 0, 0), 0);
        x.eye(0);
        is("an EYE", holds(x, 3, 0, 0), 1);
        x.eye(1);
        is("an EYE where no JAM is", holds(x, 3, 1, 0), 0);
        // The ACTS of this HOUR are done behind the looking: CLEAR and the RULE in one HOUR.
        x.ruleless();
        Due.rule(x, 2, 0, 3, 0, 0);
        x.act(1, 0);
        x.run(1);
        is("it saw the JAM that was CLEARED then", x.came(0), 2);
        is("now there is none", holds(x, 3, 0, 0), 0);
        x.eye(0);
        is("nor an EYE", holds(x, 3, 0, 0), 0);
    }

    /** "4 v: the HOUR is v or more." */
    private static void ordersOfHours() {
        int[] values = {0, 1, 2, 5, 126, 127};
        for (int v : values) {
            IceOut x = new IceOut();
            Due.rule(x, 2, 0, 4, v, 0);
            Due.rule(x, 2, 1, 4, v, 8, 4, v, 7, 0);
            x.run(Math.max(0, v - 2));
            is("4 " + v, x.holds(0), v <= 1 ? 1 : 0);
            x.run(200 - Math.max(0, v - 2));
            is("4 " + v, x.came(0), Math.max(1, v));
            is("always", x.came(1), 1);
        }
    }

    /** "5 v: the TEMPERATURE of the HOUR ahead (0 ahead of the first) is v or more." */
    private static void ordersOfTemperatures() {
        int[] values = {-128, -31, -30, -1, 0, 1, 30, 31, 127};
        int[] warmths = {-30, -1, 0, 1, 30};
        for (int v : values) {
            is("ahead of the first by " + v, holds(new IceOut(), 5, v, 0), v <= 0 ? 1 : 0);
            for (int t : warmths) {
                IceOut x = new IceOut();
                weather(x, 0, t);
                is("ahead of the first by " + v, holds(x, 5, v, 0), v <= 0 ? 1 : 0);
                x.run(1);
                is(t + " by " + v, holds(x, 5, v, 0), v <= t ? 1 : 0);
                x.again();
                is("again", holds(x, 5, v, 0), v <= 0 ? 1 : 0);
            }
        }
        // The HOUR ahead, not the one before that, nor the one that comes.
        IceOut x = new IceOut();
        Due.weather(x, 0, new int[4], new int[] {3, 7, -2, 0});
        int[] ahead = {0, 3, 7, -2, 0, 0};
        for (int t : ahead) {
            is("just so", holds(x, 5, t, 0), 1);
            is("no more", holds(x, 5, t + 1, 0), 0);
            x.run(1);
        }
    }

    /** "(What isn't there doesn't hold.)" Then its not does. */
    private static void whatIsNotThere() {
        long[][] orders = {{1, 0, 0}, {2, 0, 0}, {3, 0}};
        for (long[] o : orders) {
            long[] words = java.util.Arrays.copyOf(o, o.length + 1);
            long[] nots = java.util.Arrays.copyOf(o, o.length + 2);
            nots[o.length] = 8;
            is("ORDER " + o[0] + " of nothing", holds(new IceOut(), words), 0);
            is("not " + o[0] + " of nothing", holds(new IceOut(), nots), 1);
        }
        IceOut x = rising(0, 1);
        is("one reading, none older", holds(x, 2, 0, 0, 0), 0);
        is("not", holds(x, 2, 0, 0, 8, 0), 1);
        x.run(1);
        is("two readings", holds(x, 2, 0, 0, 0), 1);
        // A SHEET keeps it from being read: the older one is the newest.
        IceOut y = new IceOut();
        y.cell(0, 4, 100, 1, 1);
        y.cell(1, 4, 2000, 1, 1);
        y.fill(0, 0, 29);
        y.gauge(0, 0);
        Due.weather(y, 0, new int[] {10, 10, 10}, new int[] {0, -7, 4});
        y.run(1);
        is("read at 29", y.reading(0, 1, 2), 110);
        y.run(1);
        is("a SHEET of 30", y.now(0, 2), 30);
        is("not read", y.reading(0, 2, 3), IceOut.NONE);
        is("110 is the newest", holds(y, 1, 0, 11, 0), 1);
        is("110 is the newest", holds(y, 1, 0, 12, 0), 0);
        y.run(1);
        is("29 again", y.reading(0, 3, 4), 130);
        is("20 above the next older", holds(y, 2, 0, 20, 0), 1);
        is("20 above the next older", holds(y, 2, 0, 21, 0), 0);
    }

    private static void fault(int due, long... words) {
        IceOut x = new IceOut();
        is("the words " + java.util.Arrays.toString(words), Due.rule(x, 0, 0, words), due);
        is("RULES", x.count(5), due == 0 ? 1 : 0);
        is("a fault is none of the host's", x.count(9), 0);
    }

    /** "FIRST FAULT: the place of the first ORDER that isn't one, lacks a number, names no CELL ..." */
    private static void faults() {
        for (int order = 9; order <= 127; order++) {
            fault(-100, order, 0, 0, 0);
            fault(-102, 4, 1, order, 0);
        }
        for (int order = -128; order < 0; order++) {
            fault(-100, order, 0, 0, 0);
        }
        // Each with all its numbers but the last, and with none.
        fault(-100, 1);
        fault(-100, 1, 0);
        fault(-103, 1, 0, 0);
        fault(0, 1, 0, 0, 0);
        fault(-100, 2);
        fault(-100, 2, 0);
        fault(-103, 2, 0, 0);
        fault(0, 2, 0, 0, 0);
        fault(-100, 3);
        fault(-102, 3, 0);
        fault(0, 3, 0, 0);
        fault(-100, 4);
        fault(-102, 4, 0);
        fault(0, 4, 0, 0);
        fault(-100, 5);
        fault(-102, 5, 0);
        fault(0, 5, 0, 0);
        // The first of several.
        fault(-100, 1, 9, -1, 9);
        fault(-102, 4, 1, 1, 4, 0, 9, 0);
        fault(-102, 4, 1, 4, -1, 3, 9, 0);
        fault(-104, 4, 1, 4, 1, 3, 9, 4, -1, 0);
        fault(-102, 4, 1, 6, 9, 0);
        // A number may be 0 or look like an ORDER.
        fault(0, 4, 9, 0);
        fault(0, 1, 3, 99, 0);
        fault(0, 5, -1, 0);
        fault(-102, 4, 0, 4);
        // Behind the 0 nothing is looked at.
        fault(0, 4, 1, 0, -1);
        fault(0, 4, 1, 0, 4);
        fault(0, 4, 1, 0, 0, 0);
        long[] long100 = new long[100];
        java.util.Arrays.fill(long100, 8);
        long100[0] = 5;
        fault(-200, long100);
        long100[98] = 5;
        fault(-200, long100);
        long100[99] = 9;
        fault(-200, long100);
        long100[97] = 5;
        long100[98] = 9;
        fault(-199, long100);
    }

    /** "... finds too few on the stack or would be the ninth on it; or of a 0 when there isn't just one". */
    private static void faultsOfStacks() {
        fault(-100, 6, 0);
        fault(-100, 7, 0);
        fault(-100, 8, 0);
        fault(-102, 4, 1, 6, 0);
        fault(-102, 4, 1, 7, 0);
        fault(0, 4, 1, 8, 0);
        fault(0, 4, 1, 4, 1, 6, 0);
        fault(-105, 4, 1, 4, 1, 6, 6, 0);
        fault(-105, 4, 1, 4, 1, 7, 7, 0);
        fault(0, 4, 1, 4, 1, 7, 8, 0);
        fault(-100, 0);
        fault(-104, 4, 1, 4, 1, 0);
        fault(-105, 4, 1, 4, 1, 8, 0);
        for (int n = 1; n <= 12; n++) {
            for (int last = 1; last <= 5; last++) {
                long[] words = new long[2 * (n - 1) + (last == 3 || last >= 4 ? 2 : 3) + n];
                int p = 0;
                for (int k = 1; k < n; k++) {
                    words[p++] = 4;
                    words[p++] = 1;
                }
                int ninth = p;
                words[p++] = last;
                p += last <= 2 ? 2 : 1;
                for (int k = 1; k < n; k++) {
                    words[p++] = k % 2 == 0 ? 6 : 7;
                }
                fault(n <= 8 ? 0 : -100 - Math.min(ninth, 16), words);
            }
        }
    }

    /** "KNOWN from the next HOUR's ACTS on in place of the older one." */
    private static void mendsKnown() {
        IceOut x = rising(3, 5);
        is("HOUR 2 is KNOWN at 5", x.reading(0, 2, 5), 102);
        x.mend(0, 2, 50);
        is("as it was KNOWN", x.reading(0, 2, 5), 102);
        is("at the next", x.reading(0, 2, 6), 50);
        x.mend(0, 5, 60);
        is("HOUR 5 ahead of its LAG", x.reading(0, 5, 6), 60);
        is("HOUR 5 not ahead of that", x.reading(0, 5, 5), IceOut.NONE);
        is("and still when its LAG is over", x.reading(0, 5, 8), 60);
        is("HOUR 4 as read", x.reading(0, 4, 6), IceOut.NONE);
        is("HOUR 4 as read", x.reading(0, 4, 7), 104);
        // 3 is KNOWN, 4 isn't, 5 is told: 60 - 103 isn't 0 or more.
        is("the newest is HOUR 5", holds(x, 1, 0, 6, 0), 1);
        is("the newest is HOUR 5", holds(x, 1, 0, 7, 0), 0);
        is("below the next older", holds(x, 2, 0, 0, 0), 0);
        x.run(1);
        x.mend(0, 2, 51);
        is("first as read", x.reading(0, 2, 5), 102);
        is("then as MENDED", x.reading(0, 2, 6), 50);
        is("then as MENDED again", x.reading(0, 2, 7), 51);
        // For an HOUR the GAUGE couldn't read.
        IceOut y = new IceOut();
        y.fill(0, 0, 200);
        y.gauge(0, 0);
        y.run(2);
        is("none", y.reading(0, 1, 9), IceOut.NONE);
        is("there need be none", y.mend(0, 1, 0), 1);
        is("0 is a reading", y.reading(0, 1, 3), 0);
        is("0 is 10 x 0 or more", holds(y, 1, 0, 0, 0), 1);
    }

    /** A RULE that has come doesn't come again, nor does one whose ACT was in vain. */
    private static void rulesComeOnce() {
        IceOut x = new IceOut();
        for (int r = 0; r < 12; r++) {
            Due.rule(x, 2, r % 4, 4, r / 3 + 1, 0);
        }
        x.crews(6);
        int[] come = {3, 6, 9, 12, 12};
        for (int h = 0; h < come.length; h++) {
            x.run(1);
            is("by HOUR " + (h + 1), x.count(4), come[h]);
        }
        for (int r = 0; r < 12; r++) {
            is("RULE " + r, x.came(r), r / 3 + 1);
            is("it has come", x.holds(r), 0);
        }
        // One told late comes at the next HOUR at the earliest.
        x.ruleless();
        Due.rule(x, 2, 0, 4, 1, 0);
        is("not yet", x.came(0), -2);
        is("it holds", x.holds(0), 1);
        x.run(1);
        is("at the next HOUR", x.came(0), 6);
    }

    // ---- IV, V

    /** "H HOURS with RULES, the WEATHER's numbers from HOUR now + 1 on, and these ACTS." */
    private static void trialHours() {
        IceOut x = pair(4, 0, 1, 0, 0, 2000);
        x.town(0, 1, 4, 0);
        int[] inflows = new int[64];
        inflows[63] = 5;
        Due.weather(x, 1, inflows, new int[64]);
        is("HOUR 64 of 63", x.trial(0, 1, 63), 0);
        is("HOUR 64 of 64", x.trial(0, 1, 64), 1);
        is("HOUR 96", x.trial(0, 1, 96), 33);
        x.run(63);
        is("HOUR 64 is the first", x.trial(0, 1, 1), 1);
        x.run(1);
        is("HOUR 65 as 64", x.trial(0, 1, 1), 1);
        // TAKEN for the last HOUR of a TRIAL and the one behind it.
        IceOut y = new IceOut();
        y.town(0, 50, 0, 0);
        y.plan(3, 5, 0);
        y.taken(1);
        is("TAKEN for HOUR 3 of 2", y.trial(0, 0, 2), 100);
        is("TAKEN for HOUR 3 of 3", y.trial(0, 0, 3), 100);
        is("TAKEN for HOUR 3 of 4", y.trial(0, 0, 4), 100);
        // A RULE that came in a TRIAL hasn't come.
        Due.rule(y, 5, 0, 4, 1, 0);
        is("the RULE moves them", y.trial(0, 0, 3), 0);
        is("it hasn't come", y.came(0), -2);
        is("it moves them again", y.trial(0, 0, 3), 0);
        y.run(1);
        is("it has come", y.came(0), 1);
        is("none are left", y.trial(0, 0, 3), 0);
        // HARM less that of now: at the most HOUR too.
        IceOut z = new IceOut();
        z.town(0, 7, 0, 0);
        z.run(200);
        z.run(100);
        is("less that of now", z.trial(0, 0, 96), 96 * 7);
        is("HARM", z.count(2), 2100);
    }

    /** "The least worst HARM ...; of these the fewest ACTS, then the least mask." */
    private static void bestOfTies() {
        IceOut x = new IceOut();
        x.town(0, 100, 0, 0);
        x.plan(1, 5, 0);
        x.plan(1, 5, 0);
        x.plan(1, 5, 0);
        x.plan(1, 2, 3);
        is("two of three, the least mask", x.best(1, 4), 3);
        x.planless();
        x.plan(1, 2, 3);
        x.plan(1, 5, 0);
        x.plan(1, 2, 3);
        x.plan(1, 5, 0);
        is("10 comes ahead of 3, which does less", x.best(4, 4), 10);
        x.town(0, 51, 0, 0);
        x.planless();
        x.plan(1, 5, 0);
        x.plan(1, 2, 3);
        x.plan(1, 5, 0);
        is("one left is more than none", x.best(1, 1), 5);
        // By the worst, not by the sum, nor by the first.
        IceOut y = pair(4, 0, 1, 0, 0, 2000);
        y.town(0, 60, 9, 0);
        y.town(1, 55, 1999, 0);
        Due.weather(y, 1, new int[] {30, 0}, new int[] {0, 0});
        y.plan(1, 5, 1);
        y.plan(1, 2, 0);
        y.crews(1);
        is("WEATHER 0: CELL 1 alone", y.best(1, 1), 1);
        is("WEATHER 1: 60 or 10", y.worst(1, 2, 1), 65);
        is("WEATHER 1: 115", y.worst(0, 2, 1), 115);
        is("the BAG does nothing at 30", y.worst(2, 2, 1), 115);
        is("both", y.best(2, 1), 1);
        // All eight do what none does: none.
        IceOut z = new IceOut();
        for (int k = 0; k < 8; k++) {
            z.plan(1, 5, 3);
        }
        z.town(0, 10, 0, 0);
        is("in vain: none", z.best(4, 9), 0);
        z.planless();
        for (int k = 0; k < 7; k++) {
            z.plan(1, 5, 3);
        }
        z.plan(1, 5, 0);
        is("the eighth alone", z.best(4, 9), 128);
    }

    /** "Has each CREST in its span", from the START. */
    private static void fitsEachCrest() {
        IceOut x = pair(4, 0, 1, 10, 0, 2000);
        Due.weather(x, 2, new int[] {0, 7, 0}, new int[] {0, 0, 0});
        x.mark(0, 10, 10);
        is("HOUR 1: 10", x.fits(2, 1), 1);
        is("HOUR 2: 17", x.fits(2, 2), 0);
        x.mark(0, 17, 17);
        is("one of two isn't each", x.fits(2, 1), 0);
        is("one of two isn't each", x.fits(2, 2), 0);
        IceOut y = pair(4, 0, 1, 10, 0, 2000);
        Due.weather(y, 2, new int[] {0, 7, 0}, new int[] {0, 0, 0});
        y.mark(0, 17, 17);
        y.mark(1, 2000, 2000);
        y.run(5);
        is("from the START, HOUR 1", y.fits(2, 1), 0);
        is("from the START, HOUR 2", y.fits(2, 2), 1);
        is("from the START, HOUR 96", y.fits(2, 96), 1);
    }

    /** A STATE of the last HOUR, of the first, of none; one TAPE over another. */
    private static void states() {
        IceOut x = rising(2, 0);
        is("HOUR 0", x.keep(0), 0);
        x.run(200);
        x.run(100);
        is("HOUR 300", x.keep(1), 300);
        is("back to 0", x.back(0), 0);
        is("no HOUR is over", x.crest(0, 0), IceOut.NONE);
        is("no reading", x.reading(0, 1, 999), IceOut.NONE);
        is("not STARTED", x.run(1), 0);
        is("to 300", x.back(1), 300);
        is("LEVEL", x.now(0, 0), 400);
        is("the last reading", x.reading(0, 300, 302), 400);
        is("the last reading", x.reading(0, 300, 301), IceOut.NONE);
        is("none is above 300", x.run(1), IceOut.NONE);
        is("over another", x.keep(0), 300);
        is("over another", x.back(0), 300);
        x.again();
        is("over itself", x.keep(0), 0);
        is("over itself", x.back(0), 0);
        // HARM 0 has no failure, HARM 1 has one.
        IceOut y = new IceOut();
        y.town(0, 1, 0, 0);
        y.keep(0);
        y.run(1);
        y.keep(1);
        is("HARM 0", y.toss(0), IceOut.THROWN);
        is("HARM 1", y.toss(1), 1);
        is("one was refused", y.count(9), 1);
    }
}
