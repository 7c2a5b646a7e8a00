/** Promises 14 to 17 and what sections II and III say of an HOUR. */
final class HoursTest {
    private static final Due DUE = new Due("HoursTest");

    public static void main(String[] args) {
        promise14();
        promise15();
        promise16();
        promise17();
        flows();
        flowsAllAtOnce();
        frost();
        thaw();
        breaking();
        drifting();
        driftingByKinds();
        jams();
        lettingGo();
        wet();
        acts();
        DUE.end();
    }

    private static void is(String call, long got, long want) {
        DUE.is(call, got, want);
    }

    private static void weather(IceOut x, int inflow, int warmth) {
        Due.weather(x, 0, new int[] {inflow}, new int[] {warmth});
    }

    private static void promise14() {
        IceOut x = new IceOut();
        x.town(0, 3, 0, 0);
        is("14: none", x.run(0), 0);
        is("14: HARM", x.run(2), 6);
        is("14: HARM in all", x.run(1), 9);
        is("14: still", x.run(0), 9);
        is("14: below", x.run(-1), IceOut.NONE);
        is("14: above", x.run(201), IceOut.NONE);
        is("14: far off", x.run(Integer.MAX_VALUE), IceOut.NONE);
        is("14: far off", x.run(Integer.MIN_VALUE), IceOut.NONE);
        is("14: 200", x.run(200), 609);
        is("14: 98 more would be 301", x.run(98), IceOut.NONE);
        is("14: refused: the HOUR", x.count(1), 203);
        is("14: 300", x.run(97), 900);
        is("14: no more", x.run(1), IceOut.NONE);
        is("14: but none", x.run(0), 900);
        is("14: a TRIAL may go on", x.trial(0, 0, 96), 288);
        is("14: HOUR", x.count(1), 300);
    }

    private static void promise15() {
        IceOut x = new IceOut();
        x.cell(0, 3, 300, 10, 20);
        x.fill(0, 500, 40);
        x.town(0, 200, 10, 300);
        x.gauge(0, 0);
        x.mark(0, 1, 2);
        x.plan(2, 0, 0);
        weather(x, 5, 7);
        Due.rule(x, 2, 0, 4, 1, 0);
        x.act(0, 0);
        x.act(5, 0);
        x.act(6, 0);
        x.act(3, 0);
        x.act(2, 0);
        x.taken(1);
        x.run(3);
        x.mend(0, 1, 5);
        is("15: again", x.again(), 0);
        int[] count = {4, 0, 0, 0, 0, 1, 1, 1, 0, 0};
        for (int what = 0; what < count.length; what++) {
            is("15: count " + what, x.count(what), count[what]);
        }
        int[] now = {350, 500, 40, 0, 0, 0, 200, 300, 0, 350, 0};
        for (int what = 0; what < now.length; what++) {
            is("15: now " + what, x.now(0, what), now[what]);
        }
        is("15: no CREST", x.crest(0, 0), IceOut.NONE);
        is("15: no reading", x.reading(0, 1, 99), IceOut.NONE);
        is("15: not come", x.came(0), -2);
        x.run(3);
        is("15: WEATHER stays", x.now(0, 1) + x.now(0, 10) + x.now(1, 1) > 0 ? 1 : 0, 1);
        is("15: no MEND", x.reading(0, 1, 9) == 5 ? 1 : 0, 0);
        is("15: the TAKEN are dropped: the RULE's alone is done", x.count(4), 1);
        is("15: also when nothing was run", x.again() + x.again(), 0);
        x.planless();
        x.plan(5, 2, 1);
        x.taken(1);
        x.run(2);
        x.again();
        x.run(6);
        is("15: the TAKEN that had not come are dropped too", x.now(1, 5), 0);
        x.again();
        Due.rule(x, 2, 1, 5, 1, 0);
        is("15: no TEMPERATURE is ahead of the first HOUR", x.holds(1), 0);
        // A JAM and a FLOW, then again.
        IceOut y = drift(2, 120, 1000, 0);
        is("15: a JAM", y.now(0, 4), 100);
        y.again();
        is("15: no JAM", y.now(0, 4), 0);
        is("15: no FLOW", y.now(0, 10), 0);
        is("15: the SHEET", y.now(0, 2), 120);
        y.fill(0, 0, 0);
        y.run(1);
        is("15: CREST anew", y.crest(0, 0), 100);
    }

    private static void promise16() {
        IceOut x = new IceOut();
        x.cell(0, 3, 300, 3, 20);
        x.fill(0, 100, 50);
        x.town(0, 120, 4000, 30);
        int[] due = {333, 100, 50, 0, 0, 0, 120, 30, 0, 333, 0};
        for (int what = 0; what < due.length; what++) {
            is("16: now " + what, x.now(0, what), due[what]);
        }
        x.act(3, 0);
        x.act(5, 0);
        x.act(2, 0);
        x.act(6, 0);
        x.run(2);
        int[] then = {323, 70, 50, 0, 0, 10, 70, 0, 1, 333, 0};
        for (int what = 0; what < then.length; what++) {
            is("16: then " + what, x.now(0, what), then[what]);
        }
        x.act(4, 0);
        x.act(0, 0);
        x.run(1);
        // FALL 323 - 200, x 20 / 10 = 246: all its WATER; 14 of 50 FLOES go.
        int[] last = {300, 0, 0, 36, 0, 10, 70, 0, 0, -2, 70};
        for (int what = 0; what < last.length; what++) {
            is("16: last " + what, x.now(0, what), last[what]);
        }
        is("16: no CELL", x.now(4, 0), IceOut.NONE);
        is("16: no CELL", x.now(-1, 0), IceOut.NONE);
        is("16: no what", x.now(0, 11), IceOut.NONE);
        is("16: no what", x.now(0, -1), IceOut.NONE);
    }

    private static void promise17() {
        IceOut x = new IceOut();
        x.fill(0, 1000, 0);
        is("17: no HOUR is over", x.crest(0, 0), IceOut.NONE);
        x.run(1);
        // FALL 400 - 200, x 20 / 10: 400 go.
        is("17: not that of the START", x.crest(0, 0), 360);
        is("17: HOUR", x.crest(0, 1), 1);
        x.run(30);
        is("17: the greatest", x.crest(0, 0), 360);
        is("17: the first such HOUR", x.crest(0, 1), 1);
        is("17: a CELL far below, later", x.crest(3, 1) > 1 ? 1 : 0, 1);
        IceOut y = new IceOut();
        y.run(5);
        is("17: of equals the first", y.crest(0, 1), 1);
        is("17: what 2", x.crest(0, 2), IceOut.NONE);
        is("17: what -1", x.crest(0, -1), IceOut.NONE);
        is("17: no CELL", x.crest(4, 0), IceOut.NONE);
        is("17: no CELL", x.crest(-1, 0), IceOut.NONE);
        x.trial(0, 0, 30);
        x.fits(0, 30);
        is("17: TRIALS leave it", x.crest(0, 0), 360);
    }

    /** One CELL above another: FLOW of the first. */
    private static int flowOf(int kind, int water, int sheet, int below, int pass) {
        IceOut x = new IceOut();
        x.begin(2);
        x.cell(0, kind, 100, 1, pass);
        x.fill(0, water, sheet);
        x.cell(1, 4, below, 100, 1);
        x.run(1);
        return x.now(0, 10);
    }

    private static void flows() {
        is("II b: FALL 57 x 7 / 10", flowOf(4, 57, 0, 100, 7), 39);
        is("II b: with a SHEET / 30", flowOf(4, 57, 1, 100, 7), 13);
        is("II b: no more than its WATER", flowOf(4, 57, 0, 100, 100), 57);
        is("II b: FALL 1", flowOf(4, 51, 0, 150, 10), 1);
        is("II b: FALL 0", flowOf(4, 50, 0, 150, 100), 0);
        is("II b: FALL below 0", flowOf(4, 50, 0, 151, 100), 0);
        is("II b: a GATE is open", flowOf(3, 57, 0, 100, 7), 39);
        is("II b: a GATE", flowOf(3, 5, 0, 0, 100), 5);
        IceOut x = new IceOut();
        x.fill(3, 100, 0);
        x.sea(4);
        x.run(1);
        is("II b: THE SEA", x.now(3, 10), 12);
        is("II b: gone", x.now(3, 1), 88);
        IceOut y = new IceOut();
        weather(y, 77, 0);
        y.run(1);
        // LEVEL 307: FALL 107 x 2: all 77 go.
        is("II a: ahead of the FLOW", y.now(1, 1), 77);
        is("II a: ahead of the FLOW", y.now(0, 10), 77);
    }

    private static void flowsAllAtOnce() {
        IceOut x = new IceOut();
        x.begin(3);
        x.fill(0, 100, 0);
        x.fill(1, 100, 0);
        x.run(1);
        // Both send all; what CELL 1 gets waits for the next HOUR.
        is("II b: CELL 0", x.now(0, 1), 0);
        is("II b: CELL 1", x.now(1, 1), 100);
        is("II b: CELL 2", x.now(2, 1), 100);
        is("II b: FLOW of CELL 2 by LEVELS of before", x.now(2, 10), 0);
    }

    /** A LAKE that keeps its WATER: SHEET after an HOUR. */
    private static int sheetAfter(int sheet, int warmth) {
        IceOut x = new IceOut();
        x.sea(4000);
        x.cell(3, 4, 0, 1, 1);
        x.fill(3, 0, sheet);
        weather(x, 0, warmth);
        x.run(1);
        return x.now(3, 2);
    }

    private static void frost() {
        is("II c: -4 / 5", sheetAfter(0, -4), 0);
        is("II c: -5 / 5", sheetAfter(0, -5), 1);
        is("II c: -9 / 5", sheetAfter(0, -9), 1);
        is("II c: -30 / 5", sheetAfter(0, -30), 6);
        is("II c: -6 / (5 + 9 / 10)", sheetAfter(9, -6), 10);
        is("II c: -5 / (5 + 10 / 10)", sheetAfter(10, -5), 10);
        is("II c: -29 / (5 + 100 / 10)", sheetAfter(100, -29), 101);
        is("II c: -30 / (5 + 100 / 10)", sheetAfter(100, -30), 102);
        is("II c: 199", sheetAfter(199, -30), 200);
        is("II c: 200 at most", sheetAfter(200, -30), 200);
        IceOut x = new IceOut();
        x.begin(2);
        x.cell(1, 4, 0, 10, 20);
        x.fill(1, 95, 0);
        weather(x, 0, -10);
        x.run(1);
        // LEVEL 9 x 2 = 18 go: 77.
        is("II c: FROZEN is the LEVEL behind the FLOW", x.now(1, 9), 7);
        is("II c: of a dry one too", x.now(0, 9), 100);
        x.run(1);
        is("II c: FROZEN stays while it grows", x.now(1, 9), 7);
        is("II c: it grows", x.now(1, 2), 4);
        IceOut y = new IceOut();
        y.cell(0, 4, 300, 10, 20);
        y.fill(0, 0, 20);
        y.fill(1, 0, 20);
        y.act(0, 0);
        weather(y, 0, -30);
        y.run(1);
        is("II c: not where FLOES are", y.now(0, 2), 0);
        is("II c: elsewhere", y.now(1, 2), 24);
    }

    private static void thaw() {
        is("II c: 3 / 4", sheetAfter(50, 3), 50);
        is("II c: 4 / 4", sheetAfter(50, 4), 49);
        is("II c: 30 / 4", sheetAfter(50, 30), 43);
        is("II c: to 0 at least", sheetAfter(5, 30), 0);
        is("II c: 0", sheetAfter(5, 0), 5);
        is("II c: none", sheetAfter(0, 30), 0);
        IceOut x = new IceOut();
        x.fill(3, 0, 7);
        weather(x, 0, 30);
        x.run(1);
        is("II c: no SHEET, no FROZEN", x.now(3, 9), -2);
        is("II c: melted, no FLOES", x.count(8), 0);
    }

    /** SHEET after an HOUR in which the LEVEL rises by so much. */
    private static int sheetAfterRise(int kind, int sheet, int rise, int warmth) {
        IceOut x = new IceOut();
        x.begin(2);
        x.cell(0, kind, 0, 1, 1);
        x.cell(1, 4, 2000, 1, 1);
        x.fill(0, 5, sheet);
        weather(x, rise, warmth);
        x.run(1);
        is("II d: SHEET or FLOES", x.now(0, 3), x.now(0, 2) == 0 ? sheet - Math.max(0, warmth) / 4 : 0);
        return x.now(0, 2);
    }

    private static void breaking() {
        is("II d: 29 of 30", sheetAfterRise(0, 20, 29, 0), 20);
        is("II d: 30 of 30", sheetAfterRise(0, 20, 30, 0), 0);
        is("II d: a LAKE's not", sheetAfterRise(4, 20, 999, 0), 20);
        is("II d: a GATE's", sheetAfterRise(3, 20, 30, 0), 0);
        is("II d: a BRIDGE's", sheetAfterRise(2, 20, 30, 0), 0);
        is("II d: by the SHEET of now", sheetAfterRise(1, 20, 29, 4), 0);
        is("II d: by the SHEET of now", sheetAfterRise(1, 20, 28, 4), 19);
        is("II d: no SHEET, no FLOES", sheetAfterRise(0, 0, 999, 0), 0);
        is("II d: a SHEET of 1", sheetAfterRise(0, 1, 11, 0), 0);
        is("II d: a SHEET of 1", sheetAfterRise(0, 1, 10, 0), 1);
        // A SHEET that comes at the HOUR of a rise is FROZEN at the LEVEL of then.
        IceOut x = new IceOut();
        x.begin(2);
        x.cell(0, 0, 0, 1, 1);
        x.cell(1, 4, 2000, 1, 1);
        weather(x, 500, -5);
        x.run(1);
        is("II d: FROZEN as it came", x.now(0, 9), 500);
        x.run(1);
        is("II d: then it breaks", x.now(0, 3), 2);
    }

    /**
     * FLOES ice in a CELL of a kind sends flow on into another LAKE below, the FALL gone behind
     * it, so that a JAM stays.
     */
    private static IceOut drift(int kind, int ice, int flow, int sheetBelow) {
        IceOut x = new IceOut();
        x.begin(3);
        x.cell(0, kind, 100, 1, 100);
        x.cell(1, 4, 100, 1, 1);
        x.cell(2, 4, 2000, 1, 1);
        x.fill(0, flow, ice);
        x.fill(1, 0, sheetBelow);
        x.act(0, 0);
        x.run(1);
        is("II e: FLOW", x.now(0, 10), flow);
        return x;
    }

    private static void drifting() {
        IceOut x = drift(0, 50, 99, 0);
        is("II e: 99 / 5 go", x.now(0, 3), 31);
        is("II e: to the next", x.now(1, 3), 19);
        is("II e: no JAM", x.now(0, 4), 0);
        x = drift(0, 15, 99, 0);
        is("II e: no more than there are", x.now(1, 3), 15);
        x = drift(0, 50, 99, 1);
        is("II e: below a SHEET none pass", x.now(1, 3), 0);
        is("II e: they jam", x.now(0, 4), 19);
        is("II e: the rest drifts", x.now(0, 3), 31);
        is("count 8", x.count(8), 50);
        IceOut last = new IceOut();
        last.begin(2);
        last.cell(0, 0, 100, 1, 100);
        last.fill(0, 99, 50);
        last.cell(1, 4, 100, 1, 1);
        last.fill(1, 0, 1);
        last.act(0, 0);
        last.run(1);
        is("II e: the last CELL's SHEET", last.now(0, 4), 19);
        x = drift(4, 50, 99, 0);
        is("II e: a LAKE keeps them", x.now(0, 3), 50);
        is("II e: a LAKE jams not", x.now(0, 4), 0);
        // To THE SEA.
        IceOut y = new IceOut();
        y.cell(3, 0, 100, 1, 100);
        y.fill(3, 50, 30);
        y.act(0, 3);
        y.run(1);
        is("II e: gone to THE SEA", y.now(3, 3), 20);
        is("II e: gone", y.count(8), 20);
        // All at once: what comes from above stays in CELL 1 for this HOUR.
        IceOut z = new IceOut();
        z.begin(3);
        z.cell(0, 0, 1000, 1, 100);
        z.cell(1, 0, 500, 1, 100);
        z.fill(0, 100, 20);
        z.fill(1, 100, 20);
        z.act(0, 0);
        z.act(0, 1);
        z.run(1);
        is("II e: CELL 0", z.now(0, 3), 0);
        is("II e: CELL 1", z.now(1, 3), 20);
        is("II e: CELL 2", z.now(2, 3), 20);
    }

    private static void driftingByKinds() {
        int[] most = {200, 40, 20, 30};
        for (int kind = 0; kind < 4; kind++) {
            IceOut x = drift(kind, 200, 1000, 0);
            is("II e: kind " + kind, x.now(1, 3), most[kind]);
            is("II e: JAM of kind " + kind, x.now(0, 4), 200 - most[kind]);
        }
        // CELL 0 first, a REACH, gets the FLOES of two SHEETS: 220 in all; 200 pass.
        IceOut y = new IceOut();
        y.begin(3);
        y.cell(0, 0, 2000, 1, 100);
        y.cell(1, 0, 1000, 1, 100);
        y.cell(2, 4, 1000, 1, 1);
        y.fill(0, 500, 100);
        y.fill(1, 0, 150);
        y.act(0, 0);
        y.act(0, 1);
        y.run(1);
        is("II e: gathered", y.now(1, 3), 250);
        Due.weather(y, 0, new int[] {0}, new int[] {0});
        is("II e: not yet gone", y.now(2, 3), 0);
        y.run(1);
        // FLOW 500 / 5.
        is("II e: 100 go", y.now(2, 3), 100);
        // Of 250 only 200 pass a REACH, whatever its FLOW.
        y.again();
        y.fill(0, 2000, 100);
        y.act(0, 0);
        y.act(0, 1);
        y.run(2);
        is("II e: 200 go", y.now(2, 3), 200);
        is("II e: 50 jam", y.now(1, 4), 50);
        // A shut GATE has no FLOW, and what there is stays FLOES.
        IceOut g = new IceOut();
        g.cell(0, 3, 1000, 1, 100);
        g.fill(0, 500, 60);
        g.act(3, 0);
        g.act(0, 0);
        g.run(1);
        is("II e: GATE shut", g.now(0, 3), 60);
        is("II e: GATE shut, no JAM", g.now(0, 4), 0);
    }

    private static void jams() {
        IceOut x = drift(2, 120, 1000, 0);
        is("JAM", x.now(0, 4), 100);
        is("FLOES are all gone", x.now(0, 3), 0);
        // LEVELS 100 and 1100 now; 50 come to CELL 0 and stay.
        Due.weather(x, 0, new int[] {1100}, new int[] {0});
        x.run(1);
        // FALL 1200 - 1100 = 100 x 100 / (10 + 100): 90.
        is("II b: a JAM brakes", x.now(0, 10), 90);
        Due.weather(x, 0, new int[] {0}, new int[] {-30});
        x.run(1);
        is("II c: no SHEET over a JAM", x.now(0, 2), 0);
        is("II c: elsewhere", x.now(2, 2), 6);
        x.act(1, 0);
        int before = x.now(0, 4) + x.now(0, 3);
        x.run(1);
        is("III: CLEAR", x.now(0, 4), 0);
        is("III: FLOES of its CELL", x.now(0, 3) + x.now(0, 4), before);
    }

    private static void lettingGo() {
        int[][] rows = {{49, 0, 10}, {50, 0, 10}, {51, 0, 0}, {51, 1, 0}, {51, -1, 10}, {70, -1, 10}, {71, -1, 0}};
        for (int[] row : rows) {
            is("II f: FALL " + row[0] + " by " + row[1], jamLeft(row[0], row[1]), row[2]);
        }
        is("II f: a JAM of 1", smallJamLeft(33), 0);
        is("II f: a JAM of 1", smallJamLeft(32), 1);
        // In the middle: it becomes FLOES of the next CELL, behind the drifting of this HOUR.
        IceOut x = new IceOut();
        x.begin(3);
        x.cell(0, 2, 1000, 1, 100);
        x.fill(0, 150, 30);
        x.act(0, 0);
        x.run(1);
        is("II f: none left", x.now(0, 4), 0);
        is("II f: 20 drifted, 10 let go", x.now(1, 3), 30);
        is("II f: one CELL an HOUR", x.now(2, 3), 0);
    }

    /**
     * The last CELL, a BRIDGE, sends all its 150 WATER: its LEVEL is its BED then. 20 of 30 FLOES
     * pass, 10 jam: what is left of them behind an HOUR with this FALL.
     */
    private static int jamLeft(int fall, int warmth) {
        IceOut x = new IceOut();
        x.begin(2);
        x.cell(0, 4, 0, 1, 1);
        x.cell(1, 2, 1000 + fall, 1, 100);
        x.sea(1000);
        x.fill(1, 150, 30);
        x.act(0, 1);
        weather(x, 0, warmth);
        x.run(1);
        is("II f: 20 passed", x.now(1, 3), 0);
        is("II f: of the last one: gone", x.count(8), x.now(1, 4));
        return x.now(1, 4);
    }

    /** As jamLeft, but of 21 FLOES 20 pass and 1 jams. */
    private static int smallJamLeft(int fall) {
        IceOut x = new IceOut();
        x.begin(2);
        x.cell(0, 4, 0, 1, 1);
        x.cell(1, 2, 1000 + fall, 1, 100);
        x.sea(1000);
        x.fill(1, 150, 21);
        x.act(0, 1);
        x.run(1);
        x.eye(1);
        is("3: an EYE sees 1", x.holds(Due.rule(x, 2, 0, 3, 1, 0)), x.now(1, 4));
        return x.now(1, 4);
    }

    private static void wet() {
        IceOut x = new IceOut();
        x.town(0, 10, 299, 0);
        x.town(1, 100, 200, 0);
        x.town(2, 1000, 50, 0);
        is("II g: above the BANK", x.run(1), 1010);
        x.act(2, 2);
        x.act(2, 0);
        is("II g: BAGS", x.run(1), 2010);
        for (int k = 0; k < 4; k++) {
            x.act(2, 2);
        }
        is("II g: BANK 50 and BAGS 30", x.run(1), 3010);
        is("II g: BANK 50 and BAGS 50: a LEVEL of 100 isn't above", x.run(1), 3010);
        x.again();
        is("II g: no BAGS again", x.run(1), 1010);
    }

    private static void acts() {
        IceOut x = new IceOut();
        x.fill(0, 0, 14);
        x.fill(1, 0, 15);
        x.act(0, 0);
        x.act(0, 1);
        x.run(1);
        is("III: CUT of 14", x.now(0, 2), 14);
        is("III: CUT of 15", x.now(1, 2), 0);
        is("III: FLOES", x.now(1, 3), 15);
        is("III: done, also in vain", x.count(4), 2);
        IceOut y = new IceOut();
        y.town(0, 70, 4000, 100);
        y.fill(0, 30, 0);
        y.town(1, 0, 4000, 20);
        y.fill(1, 30, 0);
        y.crews(6);
        y.act(5, 0);
        y.act(6, 0);
        y.act(6, 1);
        y.run(1);
        is("III: MOVE", y.now(0, 6), 20);
        is("III: LET takes the WATER", y.now(0, 7), 70);
        is("III: before it flows", y.now(0, 10), 0);
        is("III: LET takes the ROOM", y.now(1, 7), 0);
        is("III: and leaves the rest", y.now(1, 10), 10);
        y.act(5, 0);
        y.act(5, 0);
        y.act(6, 1);
        y.run(1);
        is("III: MOVE to 0", y.now(0, 6), 0);
        is("III: done", y.count(4), 6);
        alone();
        for (int k = 0; k < 11; k++) {
            y.act(2, 3);
        }
        y.run(2);
        is("III: BAGS to 100", y.now(3, 5), 100);
    }

    /** An ACT does what it is and nothing beside. */
    private static void alone() {
        for (int kind = 0; kind <= 6; kind++) {
            IceOut x = new IceOut();
            x.begin(2);
            x.cell(0, 3, 300, 1, 100);
            x.cell(1, 4, 300, 1, 1);
            x.town(0, 70, 4000, 50);
            x.fill(0, 1000, 60);
            x.act(0, 0);
            x.run(1);
            is("III: JAM", x.now(0, 4), 30);
            Due.weather(x, 0, new int[] {20}, new int[] {0});
            x.run(1);
            x.act(kind, 0);
            x.run(1);
            is("III: JAM behind " + kind, x.now(0, 4), kind == 1 ? 0 : 30);
            is("III: FLOES behind " + kind, x.now(0, 3), kind == 1 ? 30 : 0);
            is("III: BAGS behind " + kind, x.now(0, 5), kind == 2 ? 10 : 0);
            is("III: PEOPLE behind " + kind, x.now(0, 6), kind == 5 ? 20 : 70);
            is("III: ROOM behind " + kind, x.now(0, 7), kind == 6 ? 30 : 50);
            is("III: GATE behind " + kind, x.now(0, 8), kind == 3 ? 1 : 0);
            is("III: WATER behind " + kind, x.now(0, 1), kind == 6 ? 20 : 40);
        }
    }
}
