/** Promises 30 to 38: TAPES, STATES, the host's refusals, count. */
final class TapesTest {
    private static final Due DUE = new Due("TapesTest");
    private static final int[] NO_TAPE = {-1, 6, Integer.MIN_VALUE, Integer.MAX_VALUE};

    public static void main(String[] args) {
        promise30();
        promise31();
        promise31Own();
        promise32();
        promise32Whole();
        promise32Ice();
        promise32Book();
        promise32Unable();
        promise33();
        promise34();
        promise35();
        promise36();
        promise37();
        promise37Refusals();
        promise38();
        DUE.end();
    }

    private static void is(String call, long got, long want) {
        DUE.is(call, got, want);
    }

    private static void promise30() {
        IceOut x = new IceOut();
        for (int d : NO_TAPE) {
            is("30: TAPE " + d, x.tape(d, 1, 1), IceOut.NONE);
            is("30: NONE before SIZE", x.tape(d, 1, -1), IceOut.NONE);
        }
        is("30: sort 0", x.tape(0, 0, 1), IceOut.NONE);
        is("30: sort 5", x.tape(0, 5, 1), IceOut.NONE);
        is("30: sort 5 before SIZE", x.tape(0, 5, -1), IceOut.NONE);
        is("30: 101", x.tape(0, 1, 101), IceOut.NONE);
        is("30: NONE isn't counted", x.count(9), 0);
        is("30: SIZE", x.tape(0, 1, -1), IceOut.SIZE);
        is("30: SIZE", x.tape(0, 4, Integer.MIN_VALUE), IceOut.SIZE);
        is("30: SIZE is counted", x.count(9), 2);
        is("30: refused, nothing is held", x.clear(0), 0);
        for (int sort = 1; sort <= 4; sort++) {
            is("30: 100", x.tape(sort, sort, 100), 100);
            is("30: 0", x.at(sort, 99), 0);
            is("30: no 101st", Due.thrownBy(x, sort, 100), 2);
            x.put(sort, 7, 7);
            is("30: SIZE changes nothing", x.tape(sort, sort, -1), IceOut.SIZE);
            is("30: SIZE changes nothing", x.at(sort, 7), 7);
            is("30: a new row", x.tape(sort, sort, 8), 8);
            is("30: all 0", x.at(sort, 7), 0);
            is("30: shorter", Due.thrownBy(x, sort, 8), 2);
            is("30: none", x.tape(sort, sort, 0), 0);
            is("30: it has no place", Due.thrownBy(x, sort, 0), 2);
            is("30: but it is a row", x.clear(sort), sort);
        }
    }

    private static void promise31() {
        IceOut x = new IceOut();
        for (int d : NO_TAPE) {
            is("31: TAPE " + d, x.keep(d), IceOut.NONE);
        }
        is("31: HOUR 0", x.keep(0), 0);
        x.run(7);
        is("31: HOUR 7", x.keep(5), 7);
        x.tape(3, 1, 5);
        is("31: in place of a row", x.keep(3), 7);
        is("31: it is a STATE", x.clear(3), 5);
        is("31: no row", Due.thrownBy(x, 5, 0), 2);
        is("31: a row in its place", x.tape(5, 2, 3), 3);
        is("31: a row", x.clear(5), 2);
    }

    /** Each TAPE has a STATE of its own, and THE RUN goes on beside them. */
    private static void promise31Own() {
        IceOut x = new IceOut();
        Due.weather(x, 0, new int[] {3}, new int[] {0});
        x.cell(0, 4, 0, 1, 1);
        for (int d = 0; d < 6; d++) {
            x.keep(d);
            x.run(d + 1);
        }
        int hour = 0;
        for (int d = 0; d < 6; d++) {
            is("31: back", x.back(d), hour);
            is("31: WATER", x.now(0, 1), 3 * hour);
            hour += d + 1;
        }
        x.run(2);
        is("31: what is kept stays so", x.back(5), 15);
        is("31: what is kept stays so", x.now(0, 1), 45);
    }

    private static void promise32() {
        IceOut x = new IceOut();
        for (int d : NO_TAPE) {
            is("32: TAPE " + d, x.back(d), IceOut.NONE);
        }
        is("32: NOTHING", x.back(0), IceOut.NOTHING);
        x.tape(0, 1, 1);
        is("32: CAST", x.back(0), IceOut.CAST);
        is("32: counted", x.count(9), 2);
        x.run(4);
        x.keep(1);
        x.run(3);
        is("32: back", x.back(1), 4);
        is("32: HOUR", x.count(1), 4);
        is("32: again and again", x.back(1), 4);
        x.again();
        is("32: also behind again", x.back(1), 4);
        is("32: refusals are none of its", x.count(9), 2);
        is("32: STARTED", x.sea(3), IceOut.STARTED);
        x.again();
        x.keep(2);
        x.run(3);
        x.back(2);
        is("32: an HOUR 0 isn't STARTED", x.sea(3), 0);
    }

    private static void promise32Whole() {
        IceOut x = new IceOut();
        x.cell(0, 3, 300, 10, 20);
        x.fill(0, 300, 40);
        x.fill(1, 50, 40);
        x.town(0, 200, 10, 300);
        x.gauge(1, 0);
        x.plan(3, 2, 3);
        Due.rule(x, 2, 2, 4, 2, 0);
        Due.rule(x, 2, 2, 4, 5, 0);
        Due.weather(x, 0, new int[] {50, 900}, new int[] {-9, 12});
        x.crews(3);
        int[] acts = {0, 5, 6, 3, 2, 0, 2, 2, 2, 2};
        for (int act : acts) {
            x.act(act, act == 3 || act == 6 || act == 5 ? 0 : 1);
        }
        x.run(2);
        x.mend(1, 1, 77);
        x.taken(1);
        x.keep(0);
        int[] then = look(x);
        x.run(9);
        int[] later = look(x);
        x.mend(1, 1, 78);
        x.mend(1, 2, 79);
        x.gauge(1, -1);
        x.crews(6);
        is("32: back", x.back(0), 2);
        int[] back = look(x);
        for (int k = 0; k < then.length; k++) {
            is("32: look " + k, back[k], then[k]);
        }
        is("32: GAUGES are none of THE RUN's", x.gauge(1, 0), 0);
        is("32: CREWS are none of THE RUN's", x.crews(3), 6);
        x.run(9);
        int[] again = look(x);
        for (int k = 0; k < later.length; k++) {
            is("32: the same again " + k, again[k], later[k]);
        }
        is("32: the TAKEN came again", x.now(3, 5), 10);
        is("32: the RULES came again", x.came(1), 5);
    }

    /** A STATE with something of everything, and THE RUN behind it with nothing of that. */
    private static void promise32Ice() {
        IceOut x = icy();
        is("32: keep", x.keep(2), 1);
        int[][] then = {
            {1000, 0, 0, 0, 100, 0, 0, 0, 0, -2, 1000}, {2000, 1000, 0, 20, 0, 0, 0, 0, 0, -2, 0},
            {1100, 0, 200, 0, 0, 10, 70, 250, 1, 1110, 0}, {2000, 0, 60, 0, 0, 0, 0, 0, 0, 2010, 10},
        };
        lookAt(x, "then", then);
        Due.weather(x, 0, new int[] {500}, new int[] {30});
        x.act(1, 0);
        x.act(4, 2);
        x.act(0, 2);
        x.act(0, 3);
        x.run(29);
        x.act(6, 2);
        x.run(1);
        Due.weather(x, 0, new int[] {500}, new int[] {-30});
        x.run(9);
        is("32: other ROOM", x.now(2, 7) < 250 ? 1 : 0, 1);
        is("32: other FROZEN", x.now(3, 9) == 2010 ? 1 : 0, 0);
        is("32: no JAM of 100", x.now(0, 4) == 100 ? 1 : 0, 0);
        is("32: open", x.now(2, 8), 0);
        is("32: back", x.back(2), 1);
        lookAt(x, "back", then);
        is("32: CREST", x.crest(0, 0), 1000);
        is("32: CREST's HOUR", x.crest(0, 1), 1);
        is("32: HARM", x.count(2), 70);
        is("32: done", x.count(4), 5);
        is("32: none waits", x.count(3), 0);
        // By a TRIAL it goes on from here: 11 HOURS above the BANK with 70 PEOPLE.
        is("32: a TRIAL", x.trial(0, 1, 11), 770);
        x.begin(4);
        is("32: begin", x.back(2), IceOut.UNABLE);
    }

    /** JAM, FLOES, SHEETS, a shut GATE, BAGS, a FIELD and a town, an HOUR behind the START. */
    private static IceOut icy() {
        IceOut x = new IceOut();
        x.cell(0, 2, 1000, 1, 100);
        x.cell(1, 4, 1000, 1, 1);
        x.cell(2, 3, 1100, 5, 20);
        x.cell(3, 4, 2000, 1, 1);
        x.fill(0, 1000, 120);
        x.fill(2, 50, 200);
        x.fill(3, 10, 60);
        x.town(2, 120, 500, 300);
        int[] acts = {0, 3, 6, 5, 2};
        for (int act : acts) {
            x.act(act, act == 0 ? 0 : 2);
        }
        x.crews(6);
        x.run(1);
        return x;
    }

    private static void lookAt(IceOut x, String when, int[][] due) {
        for (int i = 0; i < due.length; i++) {
            for (int what = 0; what <= 10; what++) {
                is("32: " + when + " now(" + i + ", " + what + ")", x.now(i, what), due[i][what]);
            }
        }
    }

    /** Readings and MENDS are THE RUN's: what was told behind the STATE is gone with back(). */
    private static void promise32Book() {
        IceOut x = new IceOut();
        x.gauge(2, 2);
        Due.rule(x, 2, 0, 1, 2, 9, 0);
        Due.rule(x, 2, 0, 4, 99, 1, 2, 50, 6, 0);
        x.run(3);
        x.mend(2, 1, 600);
        x.mend(2, 2, 700);
        x.run(1);
        x.mend(2, 1, 800);
        x.keep(4);
        x.again();
        x.gauge(2, -1);
        x.run(9);
        for (int k = 0; k < 5; k++) {
            x.mend(3, 7, k);
            x.mend(2, 2, 3);
        }
        is("32: back", x.back(4), 4);
        is("32: the first", x.reading(2, 1, 3), 100);
        is("32: its MEND", x.reading(2, 1, 4), 600);
        is("32: its second MEND", x.reading(2, 1, 5), 800);
        is("32: a MEND of HOUR 2", x.reading(2, 2, 4), 700);
        is("32: HOUR 2 as it was KNOWN", x.reading(2, 2, 3), IceOut.NONE);
        is("32: HOUR 3", x.reading(2, 3, 5), 100);
        is("32: HOUR 4", x.reading(2, 4, 6), 100);
        is("32: CELL 3 has none", x.reading(3, 4, 99), IceOut.NONE);
        is("32: the RULE came", x.came(0), 3);
        x.ruleless();
        is("32: HOUR 3 is the newest KNOWN", x.holds(Due.rule(x, 2, 0, 1, 2, 11, 0)), 0);
        is("32: HOUR 3 is the newest KNOWN", x.holds(Due.rule(x, 2, 0, 1, 2, 10, 0)), 1);
        for (int k = 4; k <= 40; k++) {
            is("32: MENDS", x.mend(2, 1, k), 1);
        }
        is("32: three were told since the START", x.mend(2, 1, 1), IceOut.FULL);
    }

    private static int[] look(IceOut x) {
        int[] all = new int[100];
        int k = 0;
        for (int i = 0; i < 4; i++) {
            for (int what = 0; what <= 10; what++) {
                all[k++] = x.now(i, what);
            }
            all[k++] = x.crest(i, 0);
            all[k++] = x.crest(i, 1);
        }
        for (int what = 0; what <= 9; what++) {
            all[k++] = x.count(what);
        }
        for (int r = 0; r < 2; r++) {
            all[k++] = x.came(r);
            all[k++] = x.holds(r);
        }
        for (int h = 1; h <= 12; h++) {
            all[k++] = x.reading(1, h, h + 1);
            all[k++] = x.reading(1, h, 99);
        }
        return all;
    }

    private static void unable(String call, IceOut x, int got, int want, int back) {
        is("32: " + call, got, want);
        is("32: back behind " + call, x.back(0), back);
        x.keep(0);
        is("32: kept anew behind " + call, x.back(0), x.count(1));
    }

    private static void promise32Unable() {
        IceOut x = new IceOut();
        x.keep(0);
        unable("cell", x, x.cell(0, 0, 5, 5, 5), 5, IceOut.UNABLE);
        unable("cell, refused", x, x.cell(0, 5, 5, 5, 5), IceOut.NONE, 0);
        unable("fill", x, x.fill(0, 0, 0), 5, IceOut.UNABLE);
        unable("fill, refused", x, x.fill(0, -1, 0), IceOut.NONE, 0);
        unable("town", x, x.town(0, 0, 0, 0), 0, IceOut.UNABLE);
        unable("town, refused", x, x.town(0, 0, -1, 0), IceOut.NONE, 0);
        unable("sea", x, x.sea(0), 0, IceOut.UNABLE);
        unable("sea, refused", x, x.sea(-1), IceOut.NONE, 0);
        unable("ruleless", x, x.ruleless(), 0, IceOut.UNABLE);
        unable("rule", x, Due.rule(x, 2, 0, 4, 1, 0), 0, IceOut.UNABLE);
        unable("rule, faulty", x, Due.rule(x, 2, 0, 4, 1), -102, 0);
        unable("begin, refused", x, x.begin(1), IceOut.NONE, 0);
        unable("begin", x, x.begin(4), 4, IceOut.UNABLE);
        unable("gauge", x, x.gauge(0, 1), 0, 0);
        unable("eye", x, x.eye(0), 1, 0);
        unable("crews", x, x.crews(3), 2, 0);
        unable("plan", x, x.plan(1, 2, 0), 1, 0);
        unable("mark", x, x.mark(0, 1, 2), 1, 0);
        x.run(1);
        x.keep(0);
        unable("cell, STARTED", x, x.cell(0, 0, 5, 5, 5), IceOut.STARTED, 1);
        unable("fill, STARTED", x, x.fill(0, 0, 0), IceOut.STARTED, 1);
        unable("town, STARTED", x, x.town(0, 0, 0, 0), IceOut.STARTED, 1);
        unable("sea, STARTED", x, x.sea(0), IceOut.STARTED, 1);
        unable("planless", x, x.planless(), 1, 1);
        is("32: UNABLE is none of the host's", x.count(9), 0);
    }

    private static void promise33() {
        IceOut x = new IceOut();
        for (int d : NO_TAPE) {
            is("33: TAPE " + d, x.toss(d), IceOut.NONE);
        }
        is("33: NOTHING", x.toss(0), IceOut.NOTHING);
        x.tape(0, 4, 1);
        is("33: CAST", x.toss(0), IceOut.CAST);
        x.town(0, 1, 0, 0);
        x.keep(1);
        is("33: THROWN", x.toss(1), IceOut.THROWN);
        is("33: counted", x.count(9), 3);
        x.run(1);
        x.keep(2);
        is("33: its HARM", x.toss(2), 1);
        x.run(14);
        x.keep(2);
        x.run(15);
        is("33: its HARM", x.toss(2), 15);
        is("33: THE RUN goes on", x.count(2), 30);
        is("33: THROWN still", x.toss(1), IceOut.THROWN);
        x.begin(3);
        is("33: a STATE of before begin", x.toss(2), 15);
        is("33: none", x.count(9), 0);
    }

    private static void promise34() {
        IceOut x = new IceOut();
        for (int d : NO_TAPE) {
            is("34: TAPE " + d, x.clear(d), IceOut.NONE);
        }
        is("34: nothing", x.clear(0), 0);
        for (int sort = 1; sort <= 4; sort++) {
            x.tape(0, sort, 3);
            is("34: a row", x.clear(0), sort);
            is("34: nothing more", x.clear(0), 0);
            is("34: nothing more", Due.thrownBy(x, 0, 0), 2);
        }
        x.keep(0);
        is("34: a STATE", x.clear(0), 5);
        is("34: nothing more", x.back(0), IceOut.NOTHING);
        is("34: clear itself is never refused by the host", x.count(9), 1);
    }

    private static void promise35() {
        IceOut x = new IceOut();
        for (int d : NO_TAPE) {
            is("35: TAPE " + d, x.put(d, 0, 1), IceOut.NONE);
        }
        is("35: NOTHING", x.put(0, 0, 1), IceOut.NOTHING);
        x.keep(0);
        is("35: CAST", x.put(0, 0, 1), IceOut.CAST);
        is("35: CAST before PLACE", x.put(0, -1, 1), IceOut.CAST);
        long[] numbers = {0, 1, -1, 127, 128, -128, -129, 300, 32767, 32768, 0x7FFFFFFFL, 0x80000000L,
            Long.MAX_VALUE, Long.MIN_VALUE, 0x123456789ABCDEFL};
        for (int sort = 1; sort <= 4; sort++) {
            x.tape(1, sort, 2);
            for (long v : numbers) {
                is("35: put", x.put(1, 1, v), 1);
                long want = sort == 1 ? (byte) v : sort == 2 ? (short) v : sort == 3 ? (int) v : v;
                is("35: narrowed to " + sort, x.at(1, 1), want);
            }
            is("35: the other one", x.at(1, 0), 0);
            is("35: PLACE", x.put(1, 2, 1), IceOut.PLACE);
            is("35: PLACE", x.put(1, -1, 1), IceOut.PLACE);
            is("35: PLACE", x.put(1, Integer.MIN_VALUE, 1), IceOut.PLACE);
            is("35: PLACE", x.put(1, Integer.MAX_VALUE, 1), IceOut.PLACE);
        }
        is("35: counted", x.count(9), 19);
    }

    private static void promise36() {
        IceOut x = new IceOut();
        for (int d : NO_TAPE) {
            is("36: TAPE " + d, Due.thrownBy(x, d, 0), 1);
        }
        is("36: nothing", Due.thrownBy(x, 0, 0), 2);
        x.keep(0);
        is("36: a STATE", Due.thrownBy(x, 0, 0), 2);
        x.tape(0, 2, 3);
        x.put(0, 2, -5);
        is("36: at", Due.thrownBy(x, 0, 2), 0);
        is("36: at", x.at(0, 2), -5);
        is("36: no place", Due.thrownBy(x, 0, 3), 2);
        is("36: no place", Due.thrownBy(x, 0, -1), 2);
        is("36: no place", Due.thrownBy(x, 0, Integer.MIN_VALUE), 2);
        is("36: what it throws isn't counted", x.count(9), 0);
    }

    private static void promise37() {
        IceOut x = new IceOut();
        Due.row(x, 0, 2, 1, 2, 3, 4, 5);
        Due.row(x, 1, 2, 10, 20, 30, 40);
        is("37: copy", x.copy(0, 1, 1, 0, 3), 3);
        long[] one = {2, 3, 4, 40};
        for (int k = 0; k < one.length; k++) {
            is("37: " + k, x.at(1, k), one[k]);
            is("37: the source stays", x.at(0, k), k + 1);
        }
        is("37: onto itself, to the right", x.copy(0, 0, 0, 1, 4), 4);
        long[] right = {1, 1, 2, 3, 4};
        for (int k = 0; k < right.length; k++) {
            is("37: to the right " + k, x.at(0, k), right[k]);
        }
        is("37: onto itself, to the left", x.copy(0, 2, 0, 0, 3), 3);
        long[] left = {2, 3, 4, 3, 4};
        for (int k = 0; k < left.length; k++) {
            is("37: to the left " + k, x.at(0, k), left[k]);
        }
        is("37: none", x.copy(0, 5, 1, 4, 0), 0);
        is("37: whole", x.copy(0, 0, 0, 0, 5), 5);
        for (int sort = 1; sort <= 4; sort++) {
            Due.row(x, 2, sort, 7, -8);
            x.tape(3, sort, 4);
            is("37: sort " + sort, x.copy(2, 0, 3, 2, 2), 2);
            is("37: sort " + sort, x.at(3, 3), -8);
        }
    }

    private static void promise37Refusals() {
        IceOut x = new IceOut();
        x.tape(0, 3, 5);
        x.tape(1, 3, 4);
        x.tape(2, 4, 5);
        x.keep(3);
        for (int d : NO_TAPE) {
            is("37: from TAPE " + d, x.copy(d, 0, 0, 0, 1), IceOut.NONE);
            is("37: to TAPE " + d, x.copy(4, 0, d, 0, 1), IceOut.NONE);
        }
        is("37: NOTHING of d", x.copy(4, 0, 0, 0, 1), IceOut.NOTHING);
        is("37: NOTHING of e, before CAST", x.copy(3, 0, 4, 0, 1), IceOut.NOTHING);
        is("37: two sorts", x.copy(0, 0, 2, 0, 1), IceOut.CAST);
        is("37: d is no row", x.copy(3, 0, 0, 0, 1), IceOut.CAST);
        is("37: e is no row", x.copy(0, 0, 3, 0, 1), IceOut.CAST);
        is("37: both are no rows", x.copy(3, 0, 3, 0, 0), IceOut.CAST);
        is("37: CAST before PLACE", x.copy(0, 0, 2, 0, -1), IceOut.CAST);
        int[][] wrong = {{-1, 0, 1}, {0, -1, 1}, {0, 0, -1}, {0, 0, 5}, {1, 0, 5}, {2, 0, 4}, {0, 1, 4}, {5, 0, 1}, {0, 4, 1},
            {6, 0, 0}, {0, 5, 0}, {Integer.MAX_VALUE, 0, 1}, {0, Integer.MAX_VALUE, 1}, {1, 1, Integer.MAX_VALUE},
            {Integer.MIN_VALUE, 0, 1}, {0, 0, Integer.MIN_VALUE}, {Integer.MAX_VALUE, 0, Integer.MAX_VALUE}};
        for (int[] w : wrong) {
            is("37: " + java.util.Arrays.toString(w), x.copy(0, w[0], 1, w[1], w[2]), IceOut.PLACE);
        }
        is("37: counted", x.count(9), 7 + wrong.length);
    }

    private static void promise38() {
        IceOut x = new IceOut();
        x.begin(5);
        x.town(0, 7, 0, 0);
        x.fill(1, 0, 20);
        x.cell(0, 4, 5, 5, 5);
        x.crews(1);
        x.plan(1, 0, 0);
        x.plan(9, 2, 0);
        x.mark(0, 0, 0);
        Due.rule(x, 2, 0, 4, 1, 0);
        Due.rule(x, 2, 0, 4, 9, 0);
        Due.rule(x, 2, 0, 4, 9, 0);
        x.act(0, 1);
        x.act(2, 0);
        x.act(2, 0);
        x.act(2, 0);
        x.taken(3);
        x.toss(0);
        x.toss(0);
        x.run(2);
        // HOUR 1: CUT is done, three BAGS wait, then the TAKEN CUT and the RULE's BAG. HOUR 2: the
        // first BAG keeps CELL 0 dry.
        int[] due = {5, 2, 7, 4, 2, 3, 2, 1, 20, 2};
        for (int what = 0; what < due.length; what++) {
            is("38: count " + what, x.count(what), due[what]);
        }
        is("38: 10", x.count(10), IceOut.NONE);
        is("38: -1", x.count(-1), IceOut.NONE);
        is("38: far off", x.count(Integer.MIN_VALUE), IceOut.NONE);
        x.again();
        is("38: refusals stay through again", x.count(9), 2);
        x.begin(5);
        is("38: since begin", x.count(9), 0);
    }
}
