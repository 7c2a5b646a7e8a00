/** Promises 1 to 7: the river at the START, THE SEA, WEATHERS. */
final class StartTest {
    private static final Due DUE = new Due("StartTest");

    public static void main(String[] args) {
        promise1();
        promise2();
        promise2Forgets();
        promise3();
        promise4();
        promise5();
        promise6();
        promise7();
        promise7Refusals();
        DUE.end();
    }

    private static void is(String call, long got, long want) {
        DUE.is(call, got, want);
    }

    private static void promise1() {
        IceOut x = new IceOut();
        is("1: R", x.count(0), 4);
        for (int what = 1; what <= 9; what++) {
            is("1: count " + what, x.count(what), 0);
        }
        for (int i = 0; i < 4; i++) {
            is("1: LEVEL", x.now(i, 0), 300 - 100 * i);
            for (int what = 1; what <= 8; what++) {
                is("1: now " + what, x.now(i, what), 0);
            }
            is("1: FROZEN", x.now(i, 9), -2);
            is("1: FLOW", x.now(i, 10), 0);
            is("1: GAUGE", x.gauge(i, -1), 0);
            is("1: EYE", x.eye(i), 1);
        }
        is("1: no fifth CELL", x.now(4, 0), IceOut.NONE);
        is("1: CREWS", x.crews(3), 2);
        is("1: SEA", x.sea(7), 0);
        for (int d = 0; d < 6; d++) {
            is("1: TAPE", x.clear(d), 0);
        }
        is("1: nothing flows in", x.run(5), 0);
        is("1: WATER", x.now(0, 1), 0);
        is("1: no ice", x.now(0, 2), 0);
    }

    private static void promise2() {
        IceOut x = new IceOut();
        int[] wrong = {1, 25, 0, -1, Integer.MIN_VALUE, Integer.MAX_VALUE};
        for (int cells : wrong) {
            is("2: begin(" + cells + ")", x.begin(cells), IceOut.NONE);
        }
        is("2: refused, R stays", x.count(0), 4);
        is("2: begin(2)", x.begin(2), 2);
        is("2: R", x.count(0), 2);
        is("2: BED", x.now(0, 0), 100);
        is("2: begin(24)", x.begin(24), 24);
        is("2: BED of 0", x.now(0, 0), 2300);
        is("2: BED of 23", x.now(23, 0), 0);
        is("2: AREA 10", x.fill(23, 59, 0), 5);
        // FALL 5 x PASS 20 / 10 = 10 to THE SEA.
        x.run(1);
        is("2: PASS 20", x.now(23, 10), 10);
    }

    private static void promise2Forgets() {
        IceOut x = new IceOut();
        x.fill(1, 50, 20);
        x.town(1, 100, 5, 60);
        x.cell(3, 3, 7, 3, 9);
        x.sea(30);
        x.gauge(0, 3);
        x.eye(0);
        x.crews(6);
        x.plan(1, 0, 0);
        x.mark(0, 1, 1);
        x.act(2, 0);
        Due.rule(x, 2, 0, 4, 3, 0);
        Due.weather(x, 0, new int[] {500, 600}, new int[] {-20, 9});
        x.tape(0, 2, 3);
        x.put(0, 9, 9);
        x.run(3);
        is("2: refusals before", x.count(9), 1);
        is("2: begin(4)", x.begin(4), 4);
        for (int what = 1; what <= 9; what++) {
            is("2: count " + what, x.count(what), 0);
        }
        is("2: GAUGE", x.gauge(0, -1), 0);
        is("2: EYE", x.eye(0), 1);
        is("2: CREWS", x.crews(2), 2);
        is("2: SEA", x.sea(0), 0);
        is("2: WATER", x.now(1, 1), 0);
        is("2: SHEET", x.now(1, 2), 0);
        is("2: PEOPLE", x.now(1, 6), 0);
        is("2: ROOM", x.now(1, 7), 0);
        is("2: no GATE", x.act(3, 3), IceOut.NONE);
        is("2: BED", x.now(3, 0), 0);
        is("2: no CREST", x.crest(0, 0), IceOut.NONE);
        is("2: TAPES stay", x.at(0, 2), 0);
        x.town(1, 5, 200, 0);
        x.begin(4);
        x.fill(1, 99, 0);
        x.town(2, 5, 100, 0);
        is("2: BANK", x.town(1, 5, 4000, 0) + x.run(2), 5);
        x.begin(4);
        x.fill(3, 0, 50);
        x.run(2);
        is("2: no thaw, no frost", x.now(3, 2), 50);
        is("2: TEMPERATURE 0", x.holds(Due.rule(x, 0, 0, 5, 1, 0)), 0);
        is("2: WEATHER as at first", x.now(0, 1), 0);
        is("2: no frost", x.now(0, 2), 0);
        is("2: no BAG waits", x.now(0, 5), 0);
    }

    private static void promise3() {
        IceOut x = new IceOut();
        is("3: cell", x.cell(0, 0, 0, 1, 1), 0);
        is("3: cell", x.cell(3, 4, 2000, 100, 100), 2000);
        int[][] wrong = {
            {-1, 0, 0, 1, 1}, {4, 0, 0, 1, 1}, {0, -1, 0, 1, 1}, {0, 5, 0, 1, 1}, {0, 0, -1, 1, 1},
            {0, 0, 2001, 1, 1}, {0, 0, 0, 0, 1}, {0, 0, 0, 101, 1}, {0, 0, 0, 1, 0}, {0, 0, 0, 1, 101},
            {Integer.MIN_VALUE, 0, 0, 1, 1}, {0, 0, 0, Integer.MIN_VALUE, 1}, {0, 0, 0, 1, Integer.MAX_VALUE},
        };
        for (int[] w : wrong) {
            is("3: " + java.util.Arrays.toString(w), x.cell(w[0], w[1], w[2], w[3], w[4]), IceOut.NONE);
        }
        x.fill(1, 99, 40);
        is("3: FROZEN", x.now(1, 9), 209);
        is("3: the WATER stays, the LEVEL is told", x.cell(1, 1, 300, 7, 5), 314);
        is("3: WATER", x.now(1, 1), 99);
        is("3: FROZEN is the LEVEL at the START", x.now(1, 9), 314);
        is("3: no GATE", x.act(3, 2), IceOut.NONE);
        is("3: a GATE", x.cell(2, 3, 5, 5, 5), 5);
        is("3: SHUT", x.act(3, 2), 1);
        is("3: run(0) is no HOUR", x.run(0), 0);
        is("3: still", x.cell(2, 3, 6, 5, 5), 6);
        is("3: what waits stays", x.count(3), 1);
        x.run(1);
        is("3: it is shut", x.now(2, 8), 1);
        is("3: STARTED", x.cell(2, 3, 5, 5, 5), IceOut.STARTED);
        is("3: NONE is named first", x.cell(2, 5, 5, 5, 5), IceOut.NONE);
        x.again();
        is("3: open at the START", x.now(2, 8), 0);
        is("3: told anew after again", x.cell(2, 3, 8, 5, 5), 8);
        x.act(3, 2);
        is("3: no GATE any more", x.cell(2, 0, 8, 5, 5), 8);
        x.run(1);
        is("3: SHUT came in vain", x.now(2, 8), 0);
        is("3: but it was done", x.count(4), 1);
    }

    private static void promise4() {
        IceOut x = new IceOut();
        is("4: fill", x.fill(0, 19, 0), 301);
        is("4: WATER", x.now(0, 1), 19);
        is("4: no SHEET", x.now(0, 9), -2);
        is("4: fill", x.fill(3, 200000, 200), 20000);
        is("4: FROZEN", x.now(3, 9), 20000);
        is("4: SHEET", x.now(3, 2), 200);
        is("4: fill", x.fill(3, 0, 0), 0);
        int[][] wrong = {{-1, 0, 0}, {4, 0, 0}, {0, -1, 0}, {0, 200001, 0}, {0, 0, -1}, {0, 0, 201},
            {Integer.MAX_VALUE, 0, 0}, {0, Integer.MIN_VALUE, 0}};
        for (int[] w : wrong) {
            is("4: " + java.util.Arrays.toString(w), x.fill(w[0], w[1], w[2]), IceOut.NONE);
        }
        is("4: refused, WATER stays", x.now(0, 1), 19);
        x.run(1);
        is("4: STARTED", x.fill(0, 1, 1), IceOut.STARTED);
        is("4: NONE first", x.fill(4, 1, 1), IceOut.NONE);
        x.again();
        is("4: the START", x.now(0, 1), 19);
    }

    private static void promise5() {
        IceOut x = new IceOut();
        is("5: town", x.town(0, 9999, 4000, 100000), 0);
        is("5: PEOPLE", x.now(0, 6), 9999);
        is("5: ROOM", x.now(0, 7), 100000);
        int[][] wrong = {{-1, 0, 0, 0}, {4, 0, 0, 0}, {0, -1, 0, 0}, {0, 10000, 0, 0}, {0, 0, -1, 0},
            {0, 0, 4001, 0}, {0, 0, 0, -1}, {0, 0, 0, 100001}};
        for (int[] w : wrong) {
            is("5: " + java.util.Arrays.toString(w), x.town(w[0], w[1], w[2], w[3]), IceOut.NONE);
        }
        x.town(1, 7, 200, 0);
        x.town(2, 9, 99, 0);
        is("5: only a LEVEL above the BANK is WET", x.run(2), 18);
        is("5: STARTED", x.town(0, 0, 0, 0), IceOut.STARTED);
        is("5: NONE first", x.town(0, 0, 0, -1), IceOut.NONE);
        IceOut y = new IceOut();
        y.cell(0, 0, 2000, 1, 1);
        y.fill(0, 2000, 0);
        y.town(0, 5, 4000, 0);
        y.town(1, 5, 4000, 0);
        is("5: the BANK is 4000 at first, and 4000 isn't above it", y.run(1), 0);
    }

    private static void promise6() {
        IceOut x = new IceOut();
        is("6: sea", x.sea(4000), 0);
        is("6: sea", x.sea(0), 4000);
        is("6: sea", x.sea(9), 0);
        is("6: below", x.sea(-1), IceOut.NONE);
        is("6: above", x.sea(4001), IceOut.NONE);
        x.fill(3, 100, 0);
        // LEVEL 10, THE SEA 9: FALL 1 x 20 / 10.
        x.run(1);
        is("6: FLOW to THE SEA", x.now(3, 10), 2);
        is("6: STARTED", x.sea(5), IceOut.STARTED);
        is("6: NONE first", x.sea(4001), IceOut.NONE);
        x.again();
        is("6: it stays", x.sea(10), 9);
        x.run(1);
        is("6: no FALL, no FLOW", x.now(3, 10), 0);
    }

    private static void promise7() {
        IceOut x = new IceOut();
        Due.row(x, 0, 3, 100, 9999, 0, -1);
        Due.row(x, 1, 1, -30, 30, 0, 31);
        is("7: weather", x.weather(0, 0, 1, 3), 3);
        x.cell(0, 4, 1000, 1, 1);
        x.cell(1, 0, 2000, 1, 1);
        for (int i = 2; i < 4; i++) {
            x.cell(i, 0, 2000, 1, 1);
        }
        x.run(1);
        is("7: INFLOW", x.now(0, 1), 100);
        is("7: -30: a SHEET of 30 / 5", x.now(3, 2), 6);
        x.run(1);
        is("7: second INFLOW", x.now(0, 1) + x.now(0, 10), 10099);
        is("7: 30: falls by 7", x.now(3, 2), 0);
        x.again();
        Due.row(x, 0, 3, 3, 5);
        Due.row(x, 1, 1, -10, -5);
        is("7: a shorter one", x.weather(0, 0, 1, 2), 2);
        x.run(1);
        is("7: first", x.now(0, 1), 3);
        is("7: SHEET", x.now(3, 2), 2);
        x.run(3);
        is("7: the last stands for all behind", x.now(0, 1), 18);
        is("7: SHEET", x.now(3, 2), 5);
        x.put(0, 0, 9);
        x.again();
        x.run(1);
        is("7: it is a copy", x.now(0, 1), 3);
        x.tape(0, 3, 100);
        x.tape(1, 1, 100);
        is("7: 64", x.weather(3, 0, 1, 64), 64);
        is("7: 1", x.weather(3, 0, 1, 1), 1);
        is("7: also when STARTED", x.count(1), 1);
    }

    private static void promise7Refusals() {
        IceOut x = new IceOut();
        Due.row(x, 0, 3, 1, 2, 3);
        Due.row(x, 1, 1, 1, 2);
        x.tape(2, 2, 9);
        x.keep(3);
        int[][] wrong = {{-1, 0, 1, 1}, {4, 0, 1, 1}, {0, -1, 1, 1}, {0, 6, 1, 1}, {0, 0, -1, 1}, {0, 0, 6, 1},
            {0, 0, 1, 0}, {0, 0, 1, 65}, {0, 0, 1, -1}};
        for (int[] w : wrong) {
            is("7: " + java.util.Arrays.toString(w), x.weather(w[0], w[1], w[2], w[3]), IceOut.NONE);
        }
        is("7: NONE is none of the host's", x.count(9), 0);
        is("7: NOTHING of d", x.weather(0, 4, 1, 1), IceOut.NOTHING);
        is("7: NOTHING of e, before CAST", x.weather(0, 2, 4, 1), IceOut.NOTHING);
        is("7: CAST of d", x.weather(0, 1, 1, 1), IceOut.CAST);
        is("7: CAST of d, a STATE", x.weather(0, 3, 1, 1), IceOut.CAST);
        is("7: CAST of e", x.weather(0, 0, 0, 1), IceOut.CAST);
        is("7: CAST of e, shorts", x.weather(0, 0, 2, 1), IceOut.CAST);
        is("7: CAST before PLACE", x.weather(0, 0, 2, 64), IceOut.CAST);
        is("7: PLACE of e", x.weather(0, 0, 1, 3), IceOut.PLACE);
        x.tape(1, 1, 9);
        is("7: PLACE of d", x.weather(0, 0, 1, 4), IceOut.PLACE);
        is("7: counted", x.count(9), 9);
        long[][] bad = {{-1, 0}, {10000, 0}, {0, -31}, {0, 31}};
        for (long[] b : bad) {
            x.put(0, 2, b[0]);
            x.put(1, 2, b[1]);
            is("7: UNABLE " + b[0] + " " + b[1], x.weather(0, 0, 1, 3), IceOut.UNABLE);
            is("7: PLACE before UNABLE", x.weather(0, 0, 1, 4), IceOut.PLACE);
            is("7: behind the n it doesn't matter", x.weather(1, 0, 1, 2), 2);
        }
        is("7: UNABLE is none of the host's", x.count(9), 13);
        x.run(1);
        is("7: refused, all as before", x.now(0, 1), 0);
    }
}
