import java.util.Random;

/**
 * Runs of drawn calls, the same in every run of this test, asked of the program and of the plain
 * model; after each call all that can be looked at is looked at in both.
 */
final class ModelTest {
    private static final int RUNS = 700, CALLS = 160;

    private final Due due = new Due("ModelTest");
    private final Random draw = new Random(20261118);
    private IceOut x;
    private Model m;
    private int run;
    private final int[] seen = new int[8];

    public static void main(String[] args) {
        ModelTest test = new ModelTest();
        for (test.run = 0; test.run < RUNS; test.run++) {
            test.oneRun();
        }
        String[] what = {"harm", "jam", "rule came", "best not 0", "fits", "back", "gate shut", "reading"};
        for (int k = 0; k < what.length; k++) {
            // A drawing in which nothing happens would prove nothing.
            test.due.is("runs enough with: " + what[k] + " (" + test.seen[k] + ")", test.seen[k] > 40 ? 1 : 0, 1);
        }
        test.due.end();
    }

    private void is(String call, long got, long want) {
        due.is("run " + run + ", " + call, got, want);
    }

    private int of(int n) {
        return draw.nextInt(n);
    }

    private boolean rarely() {
        return of(25) == 0;
    }

    /** Mostly a number of the span, now and then one just outside or far off. */
    private int within(int least, int most) {
        if (!rarely()) {
            return least + of(most - least + 1);
        }
        int[] odd = {least - 1, most + 1, least, most, Integer.MIN_VALUE, Integer.MAX_VALUE, -1, 0};
        return odd[of(odd.length)];
    }

    private int aCell() {
        return within(0, m.river.size() - 1);
    }

    private void oneRun() {
        x = new IceOut();
        m = new Model();
        if (of(10) > 0) {
            int r = of(4) == 0 ? within(2, 24) : within(2, 7);
            is("begin(" + r + ")", x.begin(r), m.begin(r));
        }
        for (int i = 0; i < m.river.size(); i++) {
            layCell(i);
        }
        for (int w = 0; w < 4; w++) {
            if (of(3) > 0) {
                layWeather(w);
            }
        }
        for (int k = 0; k < CALLS; k++) {
            oneCall();
            if (k % 4 == 0) {
                lookAll();
            }
        }
        lookAll();
    }

    private void layCell(int i) {
        int fall = 20 + of(120);
        int kind = of(3) == 0 ? within(0, 4) : of(4);
        int bed = Math.min(2000, fall * (m.river.size() - 1 - i));
        int area = within(1, of(3) == 0 ? 100 : 8);
        int pass = within(1, of(3) == 0 ? 100 : 25);
        is("cell(" + i + ", " + kind + ", " + bed + ", " + area + ", " + pass + ")",
                x.cell(i, kind, bed, area, pass), m.cell(i, kind, bed, area, pass));
        int water = of(4) == 0 ? within(0, 200000) : within(0, 1500);
        int sheet = of(3) == 0 ? 0 : of(5) == 0 ? within(0, 200) : within(0, 50);
        is("fill(" + i + ", " + water + ", " + sheet + ")", x.fill(i, water, sheet), m.fill(i, water, sheet));
        if (of(2) == 0) {
            int people = within(0, 400);
            int bank = Math.max(-1, Math.min(4000, m.level(m.live, i) + of(160) - 30));
            int room = within(0, 3000);
            is("town(" + i + ", " + people + ", " + bank + ", " + room + ")",
                    x.town(i, people, bank, room), m.town(i, people, bank, room));
        }
        if (of(2) == 0) {
            int lag = within(-1, 6);
            is("gauge(" + i + ", " + lag + ")", x.gauge(i, lag), m.gauge(i, lag));
        }
        if (of(2) == 0) {
            is("eye(" + i + ")", x.eye(i), m.eye(i));
        }
    }

    private void layWeather(int w) {
        int n = within(1, of(2) == 0 ? 64 : 9);
        int most = of(3) == 0 ? 9999 : 900;
        int rows = n < 1 || n > 64 ? 3 : n;
        tape(0, 3, rows);
        tape(1, 1, rows);
        int cold = of(3) == 0 ? 30 : 8;
        for (int k = 0; k < rows; k++) {
            put(0, k, of(900) == 0 ? 10000 : of(most + 1));
            put(1, k, of(900) == 0 ? 31 : of(31 + cold) - cold);
        }
        is("weather(" + w + ", 0, 1, " + n + ")", x.weather(w, 0, 1, n), m.weather(w, 0, 1, n));
    }

    private void tape(int d, int sort, int n) {
        is("tape(" + d + ", " + sort + ", " + n + ")", x.tape(d, sort, n), m.tape(d, sort, n));
    }

    private void put(int d, int i, long v) {
        is("put(" + d + ", " + i + ", " + v + ")", x.put(d, i, v), m.put(d, i, v));
    }

    private void oneCall() {
        switch (of(12)) {
            case 0: onTapes(); break;
            case 1: onStates(); break;
            case 2: atTheStart(); break;
            case 3: case 4: onRules(); break;
            case 5: onPlan(); break;
            case 6: onTrials(); break;
            case 7: onReadings(); break;
            case 8: onSettings(); break;
            case 9: onActs(); break;
            default: onHours();
        }
    }

    private void onHours() {
        if (of(25) == 0) {
            is("again()", x.again(), m.again());
            return;
        }
        int n = of(30) == 0 ? within(0, 200) : within(0, 7);
        int got = x.run(n);
        is("run(" + n + ")", got, m.run(n));
        seen[0] += got > 0 ? 1 : 0;
    }

    private void atTheStart() {
        if (of(30) == 0) {
            int r = within(2, 9);
            is("begin(" + r + ")", x.begin(r), m.begin(r));
            for (int i = 0; i < m.river.size(); i++) {
                layCell(i);
            }
        } else if (of(3) == 0) {
            int level = of(3) == 0 ? within(0, 4000) : within(0, 60);
            is("sea(" + level + ")", x.sea(level), m.sea(level));
        } else {
            layCell(of(m.river.size()));
        }
    }

    private void onActs() {
        int times = of(12) == 0 ? 45 : 1 + of(3);
        for (int k = 0; k < times; k++) {
            int kind = within(0, 6);
            int cell = aCell();
            is("act(" + kind + ", " + cell + ")", x.act(kind, cell), m.act(kind, cell));
        }
    }

    private void onRules() {
        if (of(40) == 0) {
            is("ruleless()", x.ruleless(), m.ruleless());
            return;
        }
        if (of(3) > 0) {
            int r = within(0, Math.max(0, m.rules.size() - 1));
            is("holds(" + r + ")", x.holds(r), m.holds(r));
            is("came(" + r + ")", x.came(r), m.came(r));
            return;
        }
        int n = rowOfWords(2);
        int kind = within(0, 6);
        int cell = aCell();
        is("rule(" + kind + ", " + cell + ", 2) of " + n + " bytes", x.rule(kind, cell, 2), m.rule(kind, cell, 2));
    }

    /** Mostly sound words. */
    private int rowOfWords(int d) {
        byte[] row = new byte[100];
        int n = 0;
        int depth = 0;
        int orders = of(15) == 0 ? 18 + of(5) : 1 + of(6);
        for (int k = 0; k < orders || depth > 1; k++) {
            int op = 1 + of(8);
            if (k >= orders) {
                op = 6 + of(2);
            } else if (depth == 0 || (depth == 1 && op < 8 && op > 5)) {
                op = 1 + of(5);
            } else if (depth >= 8 && of(20) > 0) {
                op = 6;
            }
            row[n++] = (byte) op;
            if (op <= 3) {
                row[n++] = (byte) (of(60) == 0 ? within(-1, 30) : of(m.river.size()));
            }
            if (op <= 2 || op == 4 || op == 5) {
                row[n++] = (byte) (of(60) == 0 ? -1 - of(9) : op == 4 ? of(60) : op == 5 ? of(30) - 12 : of(op == 1 ? 40 : 20));
            }
            depth += op <= 5 ? 1 : op <= 7 ? -1 : 0;
        }
        row[n++] = (byte) (of(40) == 0 ? of(12) : 0);
        n -= of(40) == 0 ? 1 + of(2) : 0;
        n += of(20) == 0 ? 1 : 0;
        tape(d, 1, n);
        for (int k = 0; k < n; k++) {
            put(d, k, row[k]);
        }
        return n;
    }

    private void onPlan() {
        int dice = of(20);
        if (dice == 0) {
            is("planless()", x.planless(), m.planless());
        } else if (dice < 4) {
            int set = within(0, (1 << m.plan.size()) - 1);
            is("taken(" + set + ")", x.taken(set), m.taken(set));
        } else if (m.plan.size() < 4 || of(8) == 0) {
            int hour = of(4) == 0 ? within(1, 96) : within(1, 6);
            int kind = within(0, 6);
            int cell = aCell();
            is("plan(" + hour + ", " + kind + ", " + cell + ")", x.plan(hour, kind, cell), m.plan(hour, kind, cell));
        }
    }

    private void onTrials() {
        int set = within(0, (1 << m.plan.size()) - 1);
        int w = within(0, 3);
        int n = within(1, 4);
        int hours = of(8) == 0 ? within(1, 96) : within(1, 12);
        switch (of(4)) {
            case 0:
                is("trial(" + set + ", " + w + ", " + hours + ")", x.trial(set, w, hours), m.trial(set, w, hours));
                break;
            case 1:
                is("worst(" + set + ", " + n + ", " + hours + ")", x.worst(set, n, hours), m.worst(set, n, hours));
                break;
            case 2:
                if (m.plan.size() < 6 || of(6) == 0) {
                    int got = x.best(n, Math.min(hours, 20));
                    is("best(" + n + ", " + Math.min(hours, 20) + ")", got, m.best(n, Math.min(hours, 20)));
                    seen[3] += got > 0 ? 1 : 0;
                }
                break;
            default:
                onMarks(w, hours);
        }
    }

    private void onMarks(int w, int hours) {
        if (of(2) == 0 && (m.marks.size() < 3 || of(5) == 0)) {
            int cell = aCell();
            int crest = Math.max(0, m.crest(cell, 0));
            int low = Math.max(-1, crest - of(300));
            int high = crest + of(200);
            is("mark(" + cell + ", " + low + ", " + high + ")", x.mark(cell, low, high), m.mark(cell, low, high));
        }
        int got = x.fits(w, hours);
        is("fits(" + w + ", " + hours + ")", got, m.fits(w, hours));
        seen[4] += got == 1 && !m.marks.isEmpty() ? 1 : 0;
    }

    private void onReadings() {
        int i = aCell();
        int hour = within(1, Math.max(1, m.live.hour));
        if (of(3) == 0) {
            int level = of(8) == 0 ? within(0, 9999) : Math.max(-1, m.now(i, 0) + of(80) - 40);
            is("mend(" + i + ", " + hour + ", " + level + ")", x.mend(i, hour, level), m.mend(i, hour, level));
        }
        int at = within(hour, hour + 9);
        int got = x.reading(i, hour, at);
        is("reading(" + i + ", " + hour + ", " + at + ")", got, m.reading(i, hour, at));
        seen[7] += got >= 0 ? 1 : 0;
    }

    private void onSettings() {
        int i = aCell();
        switch (of(4)) {
            case 0: {
                int lag = within(-1, 6);
                is("gauge(" + i + ", " + lag + ")", x.gauge(i, lag), m.gauge(i, lag));
                break;
            }
            case 1: is("eye(" + i + ")", x.eye(i), m.eye(i)); break;
            case 2: {
                int n = within(1, 6);
                is("crews(" + n + ")", x.crews(n), m.crews(n));
                break;
            }
            default: layWeather(within(0, 3));
        }
    }

    private void onStates() {
        int d = of(3) == 0 ? within(0, 5) : 3 + of(3);
        switch (of(5)) {
            case 0: case 1: is("keep(" + d + ")", x.keep(d), m.keep(d)); break;
            case 2: is("toss(" + d + ")", x.toss(d), m.toss(d)); break;
            default: {
                int got = x.back(d);
                is("back(" + d + ")", got, m.back(d));
                seen[5] += got > 0 ? 1 : 0;
            }
        }
    }

    private void onTapes() {
        int d = within(0, 5);
        int e = within(0, 5);
        int i = of(3) == 0 ? within(0, 99) : within(0, 6);
        int j = of(3) == 0 ? within(0, 99) : within(0, 6);
        int n = within(0, 6);
        switch (of(6)) {
            case 0: tape(d, within(1, 4), of(3) == 0 ? within(0, 100) : n); break;
            case 1: put(d, i, draw.nextLong() >> of(64)); break;
            case 2: is("clear(" + d + ")", x.clear(d), m.clear(d)); break;
            case 3: case 4:
                is("copy(" + d + ", " + i + ", " + e + ", " + j + ", " + n + ")", x.copy(d, i, e, j, n), m.copy(d, i, e, j, n));
                break;
            default: lookTape(d, i);
        }
    }

    private void lookTape(int d, int i) {
        long want = 0;
        int thrown = 0;
        try {
            want = m.at(d, i);
        } catch (IllegalArgumentException e) {
            thrown = 1;
        } catch (IllegalStateException e) {
            thrown = 2;
        }
        is("at(" + d + ", " + i + ") throws", Due.thrownBy(x, d, i), thrown);
        if (thrown == 0) {
            is("at(" + d + ", " + i + ")", x.at(d, i), want);
        }
    }

    private void lookAll() {
        int jams = 0;
        for (int i = 0; i < m.river.size(); i++) {
            for (int what = 0; what <= 10; what++) {
                is("now(" + i + ", " + what + ")", x.now(i, what), m.now(i, what));
            }
            is("crest(" + i + ", 0)", x.crest(i, 0), m.crest(i, 0));
            is("crest(" + i + ", 1)", x.crest(i, 1), m.crest(i, 1));
            jams += m.now(i, 4);
            seen[6] += m.now(i, 8);
        }
        seen[1] += jams > 0 ? 1 : 0;
        for (int what = -1; what <= 10; what++) {
            is("count(" + what + ")", x.count(what), m.count(what));
        }
        for (int r = 0; r < m.rules.size(); r++) {
            is("holds(" + r + ")", x.holds(r), m.holds(r));
            is("came(" + r + ")", x.came(r), m.came(r));
            seen[2] += m.came(r) > 0 ? 1 : 0;
        }
    }
}
