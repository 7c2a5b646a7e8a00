/** Promises 8 to 13 and 18 to 21: GAUGES, EYES, CREWS, RULES, ACTS by hand, readings, MENDS. */
final class OrdersTest {
    private static final Due DUE = new Due("OrdersTest");

    public static void main(String[] args) {
        promise8();
        promise9();
        promise10();
        promise11();
        promise11Faults();
        promise11Limits();
        promise12();
        promise13();
        promise13Lost();
        promise18();
        promise19();
        promise20Readings();
        promise20Others();
        promise20Words();
        promise20Eyes();
        promise20Cells();
        promise21();
        DUE.end();
    }

    private static void is(String call, long got, long want) {
        DUE.is(call, got, want);
    }

    /** CELL 0 rises by 1 from 100 on: at the end of HOUR h its LEVEL is 100 + h. */
    private static IceOut rising() {
        IceOut x = new IceOut();
        x.begin(2);
        x.cell(0, 0, 100, 1, 1);
        x.cell(1, 4, 2000, 1, 1);
        Due.weather(x, 0, new int[] {1}, new int[] {0});
        return x;
    }

    private static void promise8() {
        IceOut x = rising();
        is("8: first", x.gauge(0, 2), 0);
        is("8: another LAG", x.gauge(0, 0), 1);
        is("8: none", x.gauge(0, -1), 1);
        is("8: none again", x.gauge(0, -1), 0);
        is("8: no CELL", x.gauge(2, 0), IceOut.NONE);
        is("8: no CELL", x.gauge(-1, 0), IceOut.NONE);
        is("8: LAG 7", x.gauge(0, 7), IceOut.NONE);
        is("8: LAG -2", x.gauge(0, -2), IceOut.NONE);
        is("8: refused: still none", x.gauge(0, 6), 0);
        x.run(1);
        is("8: LAG 6", x.reading(0, 1, 6), IceOut.NONE);
        is("8: LAG 6", x.reading(0, 1, 7), 101);
        x.gauge(0, 1);
        x.run(1);
        is("8: of before: as it was", x.reading(0, 1, 6), IceOut.NONE);
        is("8: LAG 1", x.reading(0, 2, 3), 102);
        x.gauge(0, -1);
        x.run(1);
        is("8: no GAUGE, no reading", x.reading(0, 3, 99), IceOut.NONE);
        is("8: those of before stay", x.reading(0, 2, 3), 102);
        x.again();
        is("8: GAUGES stay through again", x.gauge(0, 3), 0);
        x.again();
        is("8: GAUGES stay through again", x.gauge(0, 3), 1);
    }

    private static void promise9() {
        IceOut x = new IceOut();
        is("9: one", x.eye(3), 1);
        is("9: none", x.eye(3), 0);
        is("9: one", x.eye(3), 1);
        is("9: no CELL", x.eye(4), IceOut.NONE);
        is("9: no CELL", x.eye(-1), IceOut.NONE);
        x.run(1);
        x.again();
        is("9: EYES stay through again", x.eye(3), 0);
    }

    private static void promise10() {
        IceOut x = new IceOut();
        is("10: first", x.crews(6), 2);
        is("10: then", x.crews(1), 6);
        is("10: 0", x.crews(0), IceOut.NONE);
        is("10: 7", x.crews(7), IceOut.NONE);
        for (int k = 0; k < 5; k++) {
            x.act(2, 0);
        }
        x.run(2);
        is("10: one an HOUR", x.now(0, 5), 20);
        is("10: what is left waits", x.count(3), 3);
        x.crews(6);
        x.run(1);
        is("10: more at once", x.now(0, 5), 50);
        is("10: done", x.count(4), 5);
        x.again();
        is("10: CREWS stay through again", x.crews(2), 6);
    }

    private static void promise11() {
        IceOut x = new IceOut();
        Due.row(x, 0, 1, 4, 3, 0);
        x.tape(1, 2, 3);
        x.keep(2);
        is("11: first", x.rule(0, 0, 0), 0);
        is("11: second", x.rule(6, 3, 0), 1);
        int[][] wrong = {{-1, 0, 0}, {7, 0, 0}, {0, -1, 0}, {0, 4, 0}, {3, 0, 0}, {4, 0, 0}, {0, 0, -1}, {0, 0, 6},
            {3, 0, 5}, {0, 4, 5}};
        for (int[] w : wrong) {
            is("11: " + java.util.Arrays.toString(w), x.rule(w[0], w[1], w[2]), IceOut.NONE);
        }
        is("11: none counted", x.count(9), 0);
        is("11: NOTHING", x.rule(0, 0, 5), IceOut.NOTHING);
        is("11: CAST", x.rule(0, 0, 1), IceOut.CAST);
        is("11: CAST of a STATE", x.rule(0, 0, 2), IceOut.CAST);
        is("11: counted", x.count(9), 3);
        is("11: a fault is none of the host's", Due.rule(x, 0, 0), -100);
        is("11: not counted", x.count(9), 3);
        is("11: RULES", x.count(5), 2);
        x.cell(0, 3, 0, 1, 1);
        is("11: SHUT a GATE", x.rule(3, 0, 0), 2);
        is("11: OPEN a GATE", x.rule(4, 0, 0), 3);
        x.put(0, 1, 1);
        x.run(2);
        is("11: the words are a copy", x.came(0), -2);
        x.run(1);
        is("11: the words are a copy", x.came(0), 3);
    }

    private static void fault(String what, int due, long... words) {
        IceOut x = new IceOut();
        is("11: " + what, Due.rule(x, 0, 0, words), due);
        is("11: " + what + ", RULES", x.count(5), due >= 0 ? 1 : 0);
    }

    private static void promise11Faults() {
        fault("a row of none", -100);
        fault("only the end", -100, 0);
        fault("no ORDER 9", -100, 9, 0, 0, 0);
        fault("no ORDER -1", -100, -1, 0);
        fault("a later one", -102, 4, 1, 9, 0);
        fault("lacks its CELL", -100, 3);
        fault("lacks its number", -100, 1, 0);
        fault("lacks its number", -102, 4, 1, 2, 0);
        fault("lacks its number", -102, 4, 1, 5);
        fault("no CELL 4", -100, 1, 4, 0, 0);
        fault("no CELL -1", -100, 3, -1, 0);
        fault("the last CELL", 0, 3, 3, 0);
        fault("a number below 0", -100, 1, 0, -1, 0);
        fault("a number below 0", -100, 2, 0, -1, 0);
        fault("a number below 0", -100, 4, -1, 0);
        fault("a TEMPERATURE below 0", 0, 5, -128, 0);
        fault("127", 0, 2, 0, 127, 0);
        fault("nothing for not", -100, 8, 0);
        fault("one for and", -102, 4, 1, 6, 0);
        fault("one for or", -102, 4, 1, 7, 0);
        fault("two left", -104, 4, 1, 4, 2, 0);
        fault("no 0", -102, 4, 1);
        fault("no 0", -105, 4, 1, 4, 2, 6);
        fault("behind the 0 all is free", 0, 4, 1, 0, 9, 9);
        fault("eight on it", 0, 4, 1, 4, 1, 4, 1, 4, 1, 4, 1, 4, 1, 4, 1, 4, 1, 6, 6, 6, 6, 7, 7, 7, 0);
        fault("the ninth", -116, 4, 1, 4, 1, 4, 1, 4, 1, 4, 1, 4, 1, 4, 1, 4, 1, 4, 1, 6, 6, 6, 6, 7, 7, 7, 7, 0);
        fault("not on eight", 0, 4, 1, 4, 1, 4, 1, 4, 1, 4, 1, 4, 1, 4, 1, 4, 1, 8, 6, 6, 6, 6, 7, 7, 7, 0);
        long[] long100 = new long[100];
        java.util.Arrays.fill(long100, 8);
        long100[0] = 4;
        fault("100 without a 0", -200, long100);
    }

    private static void promise11Limits() {
        IceOut x = new IceOut();
        long[] twenty = new long[22];
        java.util.Arrays.fill(twenty, 8);
        twenty[0] = 4;
        twenty[21] = 0;
        is("11: 20 ORDERS", Due.rule(x, 0, 0, twenty), 0);
        long[] more = new long[23];
        java.util.Arrays.fill(more, 8);
        more[0] = 4;
        more[22] = 0;
        is("11: 21 ORDERS", Due.rule(x, 0, 0, more), IceOut.FULL);
        more[22] = 6;
        is("11: a fault comes before FULL", Due.rule(x, 0, 0, more), -122);
        for (int r = 1; r < 12; r++) {
            is("11: RULE", Due.rule(x, 0, 0, 4, 1, 0), r);
        }
        is("11: 13 RULES", Due.rule(x, 0, 0, 4, 1, 0), IceOut.FULL);
        is("11: a fault comes before FULL", Due.rule(x, 0, 0, 4, 1, 6), -102);
        is("11: CAST comes before FULL", x.tape(0, 2, 3) == 3 ? x.rule(0, 0, 0) : 0, IceOut.CAST);
    }

    private static void promise12() {
        IceOut x = rising();
        is("12: none", x.ruleless(), 0);
        Due.rule(x, 2, 0, 4, 1, 0);
        Due.rule(x, 2, 0, 4, 9, 0);
        x.run(1);
        is("12: two", x.ruleless(), 2);
        is("12: none", x.count(5), 0);
        is("12: none", x.holds(0), IceOut.NONE);
        is("12: none", x.came(0), IceOut.NONE);
        x.run(10);
        is("12: they come no more", x.now(0, 5), 10);
        is("12: number 0 again", Due.rule(x, 2, 0, 4, 1, 0), 0);
        is("12: a new one, not yet come", x.came(0), -2);
        x.run(1);
        is("12: it comes", x.came(0), 12);
    }

    private static void promise13() {
        IceOut x = new IceOut();
        x.cell(0, 3, 300, 10, 20);
        int[][] wrong = {{-1, 0}, {7, 0}, {0, -1}, {0, 4}, {3, 1}, {4, 2}, {Integer.MIN_VALUE, 0}};
        for (int[] w : wrong) {
            is("13: " + java.util.Arrays.toString(w), x.act(w[0], w[1]), IceOut.NONE);
        }
        is("13: SHUT", x.act(3, 0), 1);
        is("13: OPEN", x.act(4, 0), 2);
        is("13: SHUT", x.act(3, 0), 3);
        is("13: BAG", x.act(2, 1), 4);
        Due.rule(x, 2, 2, 4, 1, 0);
        x.run(1);
        is("13: in their order", x.now(0, 8), 0);
        is("13: two wait, and the RULE's", x.count(3), 3);
        x.run(1);
        is("13: ahead of the RULE's", x.now(1, 5), 10);
        is("13: ahead of the RULE's", x.now(2, 5), 0);
        is("13: SHUT", x.now(0, 8), 1);
        x.run(1);
        is("13: at last", x.now(2, 5), 10);
        is("13: done", x.count(4), 5);
        is("13: behind those that wait", x.act(2, 3), 1);
        x.again();
        is("13: again drops it", x.count(3), 0);
    }

    /** 40 wait at most; what comes beyond is lost, though it came. */
    private static void promise13Lost() {
        IceOut x = new IceOut();
        for (int k = 1; k <= 40; k++) {
            is("13: act", x.act(2, 0), k);
        }
        is("13: FULL", x.act(2, 0), IceOut.FULL);
        is("13: NONE first", x.act(2, 4), IceOut.NONE);
        Due.rule(x, 2, 1, 4, 1, 0);
        x.run(1);
        is("13: lost", x.count(3), 38);
        is("13: came", x.came(0), 1);
        is("13: BAGS to 100", x.run(19) + x.now(0, 5), 100);
        is("13: all done, also in vain", x.count(4), 40);
        is("13: none waits", x.count(3), 0);
        x.run(1);
        is("13: never", x.now(1, 5), 0);
    }

    private static void promise18() {
        IceOut x = rising();
        x.gauge(0, 0);
        x.gauge(1, 3);
        is("18: no HOUR is over", x.reading(0, 1, 9), IceOut.NONE);
        x.run(3);
        is("18: at the next", x.reading(0, 1, 2), 101);
        is("18: not at itself", x.reading(0, 1, 1), IceOut.NONE);
        is("18: later on", x.reading(0, 1, Integer.MAX_VALUE), 101);
        is("18: far ahead", x.reading(0, 1, Integer.MIN_VALUE), IceOut.NONE);
        is("18: the last", x.reading(0, 3, 4), 103);
        is("18: not over", x.reading(0, 4, 99), IceOut.NONE);
        is("18: HOUR 0", x.reading(0, 0, 99), IceOut.NONE);
        is("18: far off", x.reading(0, Integer.MIN_VALUE, 99), IceOut.NONE);
        is("18: far off", x.reading(0, Integer.MAX_VALUE, 99), IceOut.NONE);
        is("18: no CELL", x.reading(2, 1, 9), IceOut.NONE);
        is("18: no CELL", x.reading(-1, 1, 9), IceOut.NONE);
        is("18: LAG 3", x.reading(1, 1, 3), IceOut.NONE);
        is("18: LAG 3", x.reading(1, 1, 4), 2000);
        x.trial(0, 0, 9);
        is("18: a TRIAL's readings are no readings", x.reading(0, 4, 99), IceOut.NONE);
        x.again();
        is("18: none", x.reading(0, 1, 9), IceOut.NONE);
        IceOut y = rising();
        y.fill(0, 0, 30);
        y.fill(1, 0, 29);
        y.gauge(0, 0);
        y.gauge(1, 0);
        y.run(1);
        is("18: a SHEET of 30", y.reading(0, 1, 9), IceOut.NONE);
        is("18: a SHEET of 29", y.reading(1, 1, 9), 2000);
    }

    private static void promise19() {
        IceOut x = rising();
        is("19: HOUR 1 isn't over", x.mend(0, 1, 5), IceOut.NONE);
        x.gauge(0, 4);
        x.run(3);
        int[][] wrong = {{-1, 1, 5}, {2, 1, 5}, {0, 0, 5}, {0, 4, 5}, {0, -1, 5}, {0, 1, -1}, {0, 1, 10000}};
        for (int[] w : wrong) {
            is("19: " + java.util.Arrays.toString(w), x.mend(w[0], w[1], w[2]), IceOut.NONE);
        }
        is("19: mend", x.mend(0, 2, 9999), 1);
        is("19: not before", x.reading(0, 2, 3), IceOut.NONE);
        is("19: from the next HOUR's ACTS", x.reading(0, 2, 4), 9999);
        is("19: in place of the older", x.reading(0, 2, 6), 9999);
        is("19: the others stay", x.reading(0, 1, 5), 101);
        is("19: there need be none", x.mend(1, 1, 0), 1);
        is("19: no GAUGE", x.reading(1, 1, 4), 0);
        x.run(4);
        x.mend(0, 2, 7);
        is("19: told again", x.reading(0, 2, 8), 7);
        is("19: as it was KNOWN", x.reading(0, 2, 7), 9999);
        x.mend(0, 1, 55);
        is("19: the older, as KNOWN", x.reading(0, 1, 5), 101);
        is("19: the newer", x.reading(0, 1, 8), 55);
        x.mend(0, 1, 56);
        is("19: twice in an HOUR", x.reading(0, 1, 8), 56);
        is("19: and the older", x.reading(0, 1, 7), 101);
        for (int k = 6; k <= 40; k++) {
            is("19: mend", x.mend(1, 2, k), 1);
        }
        is("19: FULL", x.mend(1, 2, 1), IceOut.FULL);
        is("19: NONE first", x.mend(1, 8, 1), IceOut.NONE);
        x.again();
        x.run(1);
        is("19: since the START", x.mend(1, 1, 1), 1);
        is("19: none of before", x.reading(0, 1, 5), 101);
    }

    private static int holdsOf(IceOut x, long... words) {
        x.ruleless();
        return x.holds(Due.rule(x, 2, 0, words));
    }

    private static void promise20Readings() {
        IceOut x = rising();
        x.gauge(0, 2);
        x.run(2);
        // HOUR 3 knows of HOUR 1: 101.
        is("20: 10 v", holdsOf(x, 1, 0, 10, 0), 1);
        is("20: more", holdsOf(x, 1, 0, 11, 0), 0);
        is("20: no older one", holdsOf(x, 2, 0, 0, 0), 0);
        is("20: no GAUGE", holdsOf(x, 1, 1, 0, 0), 0);
        x.run(1);
        is("20: one above", holdsOf(x, 2, 0, 1, 0), 1);
        is("20: two above", holdsOf(x, 2, 0, 2, 0), 0);
        x.mend(0, 1, 90);
        is("20: the older mended", holdsOf(x, 2, 0, 12, 0), 1);
        is("20: the older mended", holdsOf(x, 2, 0, 13, 0), 0);
        x.mend(0, 3, 100);
        is("20: a MEND is KNOWN ahead of its LAG", holdsOf(x, 2, 0, 0, 0), 0);
        is("20: the newest by its HOUR", holdsOf(x, 1, 0, 10, 0), 1);
        x.mend(0, 2, 0);
        is("20: not by its telling", holdsOf(x, 1, 0, 10, 0), 1);
        is("20: far above", holdsOf(x, 2, 0, 100, 0), 1);
        x.gauge(0, -1);
        is("20: readings stay without the GAUGE", holdsOf(x, 1, 0, 10, 0), 1);
        x.run(40);
        is("20: over empty HOURS", holdsOf(x, 2, 0, 100, 0), 1);
        x.mend(0, 20, 1270);
        is("20: between them", holdsOf(x, 1, 0, 127, 0), 1);
        x.mend(0, 10, 1144);
        is("20: next older", holdsOf(x, 2, 0, 126, 0), 1);
        is("20: next older", holdsOf(x, 2, 0, 127, 0), 0);
    }

    private static void promise20Others() {
        IceOut x = rising();
        is("20: no RULE", x.holds(0), IceOut.NONE);
        is("20: HOUR 1", holdsOf(x, 4, 1, 0), 1);
        is("20: HOUR 2", holdsOf(x, 4, 2, 0), 0);
        is("20: no RULE 1", x.holds(1), IceOut.NONE);
        is("20: no RULE -1", x.holds(-1), IceOut.NONE);
        Due.weather(x, 0, new int[] {0, 0, 0}, new int[] {5, -7, 9});
        is("20: 0 ahead of the first", holdsOf(x, 5, 0, 0), 1);
        is("20: 0 ahead of the first", holdsOf(x, 5, 1, 0), 0);
        x.run(1);
        is("20: that of the HOUR ahead", holdsOf(x, 5, 5, 0), 1);
        is("20: that of the HOUR ahead", holdsOf(x, 5, 6, 0), 0);
        x.run(1);
        is("20: below 0", holdsOf(x, 5, -7, 0), 1);
        is("20: below 0", holdsOf(x, 5, -6, 0), 0);
        Due.weather(x, 0, new int[] {0}, new int[] {20});
        is("20: as it was, though told anew", holdsOf(x, 5, 20, 0), 0);
        x.ruleless();
        Due.rule(x, 2, 0, 4, 4, 0);
        is("20: not yet", x.holds(0), 0);
        x.run(1);
        is("20: now", x.holds(0), 1);
        x.run(1);
        is("20: it has come", x.holds(0), 0);
    }

    /** True: 4 0; not true: 4 99. */
    private static void promise20Words() {
        IceOut x = new IceOut();
        is("20: both", holdsOf(x, 4, 0, 4, 0, 6, 0), 1);
        is("20: both", holdsOf(x, 4, 0, 4, 99, 6, 0), 0);
        is("20: both", holdsOf(x, 4, 99, 4, 0, 6, 0), 0);
        is("20: one", holdsOf(x, 4, 99, 4, 0, 7, 0), 1);
        is("20: one", holdsOf(x, 4, 0, 4, 99, 7, 0), 1);
        is("20: one", holdsOf(x, 4, 99, 4, 99, 7, 0), 0);
        is("20: not", holdsOf(x, 4, 99, 8, 0), 1);
        is("20: not", holdsOf(x, 4, 0, 8, 0), 0);
        is("20: not the last alone", holdsOf(x, 4, 0, 4, 99, 8, 6, 0), 1);
        is("20: the last two", holdsOf(x, 4, 0, 4, 99, 4, 99, 6, 7, 0), 1);
        is("20: the last two", holdsOf(x, 4, 0, 4, 99, 7, 4, 99, 6, 0), 0);
        is("20: eight", holdsOf(x, 4, 0, 4, 0, 4, 0, 4, 0, 4, 0, 4, 0, 4, 0, 4, 99, 8, 6, 6, 6, 6, 6, 6, 6, 0), 1);
    }

    private static void promise20Eyes() {
        // A JAM of 20: 40 of 60 FLOES pass a BEND, and it lies below the next LEVEL then.
        IceOut y = new IceOut();
        y.cell(0, 1, 300, 1, 100);
        y.fill(0, 300, 60);
        y.fill(1, 1800, 0);
        y.act(0, 0);
        y.eye(0);
        is("20: no JAM", holdsOf(y, 3, 0, 0), 0);
        y.eye(0);
        y.run(1);
        is("20: a JAM", y.now(0, 4), 20);
        is("20: no EYE", holdsOf(y, 3, 0, 0), 0);
        y.eye(0);
        is("20: an EYE", holdsOf(y, 3, 0, 0), 1);
        is("20: elsewhere", holdsOf(y, 3, 1, 0), 0);
    }

    /** Two GAUGES side by side: each RULE looks at its own. */
    private static void promise20Cells() {
        IceOut x = new IceOut();
        x.begin(4);
        x.cell(1, 4, 150, 1, 1);
        x.cell(2, 4, 1000, 1, 1);
        x.cell(3, 4, 2000, 1, 1);
        x.gauge(1, 0);
        x.gauge(2, 6);
        x.run(4);
        is("20: CELL 1 is KNOWN", holdsOf(x, 1, 1, 15, 0), 1);
        is("20: CELL 1 is no higher", holdsOf(x, 1, 1, 16, 0), 0);
        is("20: CELL 2 isn't KNOWN", holdsOf(x, 1, 2, 0, 0), 0);
        x.mend(2, 1, 500);
        is("20: CELL 2 by its MEND", holdsOf(x, 1, 2, 50, 0), 1);
        is("20: CELL 2 by its MEND", holdsOf(x, 1, 2, 51, 0), 0);
        is("20: no second one", holdsOf(x, 2, 2, 0, 0), 0);
        x.mend(2, 3, 600);
        is("20: the next older in CELL 2", holdsOf(x, 2, 2, 100, 0), 1);
        is("20: the next older in CELL 2", holdsOf(x, 2, 2, 101, 0), 0);
        is("20: CELL 1 stays", holdsOf(x, 2, 1, 1, 0), 0);
        x.mend(3, 2, 900);
        is("20: CELL 3 has but a MEND", holdsOf(x, 1, 3, 90, 0), 1);
        is("20: CELL 3 has but a MEND", holdsOf(x, 1, 3, 91, 0), 0);
        x.run(3);
        is("20: HOUR 2 is KNOWN, HOUR 3 was told", holdsOf(x, 2, 2, 101, 0), 0);
        x.run(3);
        is("20: HOUR 5 is KNOWN, HOUR 4 too", holdsOf(x, 2, 2, 1, 0), 0);
        is("20: HOUR 5 is KNOWN", holdsOf(x, 1, 2, 100, 0), 1);
    }

    private static void promise21() {
        IceOut x = rising();
        is("21: no RULE", x.came(0), IceOut.NONE);
        Due.rule(x, 2, 0, 4, 3, 0);
        Due.rule(x, 2, 1, 4, 127, 0);
        is("21: not yet", x.came(0), -2);
        is("21: none", x.came(2), IceOut.NONE);
        is("21: none", x.came(-1), IceOut.NONE);
        x.run(2);
        is("21: not yet", x.came(0), -2);
        x.run(4);
        is("21: it came", x.came(0), 3);
        is("21: the other not", x.came(1), -2);
        is("21: once", x.now(0, 5), 10);
        x.again();
        is("21: again", x.came(0), -2);
        x.run(3);
        is("21: it comes again", x.came(0), 3);
    }
}
