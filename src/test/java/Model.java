import java.util.ArrayList;
import java.util.Arrays;
import java.util.HashMap;
import java.util.List;
import java.util.Map;

/**
 * The document once more, read anew and put down as slowly and plainly as it goes: everything is
 * copied whole, searched from end to end and tried out. Calls bear the document's names.
 */
final class Model {
    static final int NONE = -1, FULL = -2, STARTED = -3, UNABLE = -4;
    static final int NOTHING = -11, CAST = -12, PLACE = -13, SIZE = -14, THROWN = -15;

    static final class Laid {
        int kind, bed, area = 10, pass = 20, water, sheet, people, bank = 4000, room;
        Integer lag;
        boolean eye;
    }

    static final class Cell {
        int water, sheet, frozen, floes, jam, bags, people, room, flow, crest = -1, crestHour;
        boolean shut;

        Cell twin() {
            Cell c = new Cell();
            c.water = water; c.sheet = sheet; c.frozen = frozen; c.floes = floes; c.jam = jam;
            c.bags = bags; c.people = people; c.room = room; c.flow = flow; c.crest = crest;
            c.crestHour = crestHour; c.shut = shut;
            return c;
        }
    }

    record Act(int hour, int kind, int cell) { }
    record Told(int level, int from) { }
    record Rule(int kind, int cell, int[] words) { }
    record Mark(int cell, int low, int high) { }

    static final class State {
        int hour, harm, done, mends, warmth;
        List<Cell> cells = new ArrayList<>();
        List<Act> waiting = new ArrayList<>();
        List<Act> taken = new ArrayList<>();
        Map<Integer, Integer> came = new HashMap<>();
        /** By CELL and HOUR all that was told, the newest last. */
        Map<String, List<Told>> book = new HashMap<>();

        State twin() {
            State s = new State();
            s.hour = hour; s.harm = harm; s.done = done; s.mends = mends; s.warmth = warmth;
            for (Cell c : cells) s.cells.add(c.twin());
            s.waiting.addAll(waiting);
            s.taken.addAll(taken);
            s.came.putAll(came);
            book.forEach((k, v) -> s.book.put(k, new ArrayList<>(v)));
            return s;
        }

        Integer known(int cell, int hour, int at) {
            Integer level = null;
            for (Told t : book.getOrDefault(cell + "/" + hour, List.of())) {
                if (t.from() <= at) level = t.level();
            }
            return level;
        }
    }

    List<Laid> river = new ArrayList<>();
    int sea, crews, refusals, version;
    int[][] inflow = new int[4][], warmth = new int[4][];
    List<Rule> rules = new ArrayList<>();
    List<Act> plan = new ArrayList<>();
    List<Mark> marks = new ArrayList<>();
    State live = new State();
    Object[] tapes = new Object[6];
    int[] versions = new int[6];

    Model() {
        begin(4);
    }

    int begin(int r) {
        if (r < 2 || r > 24) return NONE;
        river = new ArrayList<>();
        for (int i = 0; i < r; i++) {
            Laid c = new Laid();
            c.bed = 100 * (r - 1 - i);
            river.add(c);
        }
        sea = 0; crews = 2; refusals = 0; version++;
        for (int w = 0; w < 4; w++) { inflow[w] = new int[1]; warmth[w] = new int[1]; }
        rules.clear(); plan.clear(); marks.clear();
        live = start();
        return r;
    }

    State start() {
        State s = new State();
        for (int i = 0; i < river.size(); i++) s.cells.add(startCell(i));
        return s;
    }

    Cell startCell(int i) {
        Laid l = river.get(i);
        Cell c = new Cell();
        c.water = l.water; c.sheet = l.sheet; c.people = l.people; c.room = l.room;
        c.frozen = l.bed + Math.floorDiv(l.water, l.area);
        return c;
    }

    boolean no(int i) { return i < 0 || i >= river.size(); }
    static boolean out(long v, long a, long b) { return v < a || v > b; }
    int level(State s, int i) {
        if (i == river.size()) return sea;
        return river.get(i).bed + Math.floorDiv(s.cells.get(i).water, river.get(i).area);
    }

    int cell(int i, int kind, int bed, int area, int pass) {
        if (no(i) || out(kind, 0, 4) || out(bed, 0, 2000) || out(area, 1, 100) || out(pass, 1, 100)) return NONE;
        if (live.hour > 0) return STARTED;
        Laid l = river.get(i);
        l.kind = kind; l.bed = bed; l.area = area; l.pass = pass;
        live.cells.set(i, startCell(i));
        version++;
        return level(live, i);
    }

    int fill(int i, int water, int sheet) {
        if (no(i) || out(water, 0, 200000) || out(sheet, 0, 200)) return NONE;
        if (live.hour > 0) return STARTED;
        river.get(i).water = water; river.get(i).sheet = sheet;
        live.cells.set(i, startCell(i));
        version++;
        return level(live, i);
    }

    int town(int i, int people, int bank, int room) {
        if (no(i) || out(people, 0, 9999) || out(bank, 0, 4000) || out(room, 0, 100000)) return NONE;
        if (live.hour > 0) return STARTED;
        Laid l = river.get(i);
        l.people = people; l.bank = bank; l.room = room;
        live.cells.set(i, startCell(i));
        version++;
        return 0;
    }

    int sea(int level) {
        if (out(level, 0, 4000)) return NONE;
        if (live.hour > 0) return STARTED;
        int old = sea;
        sea = level;
        version++;
        return old;
    }

    int refuse(int why) { refusals++; return why; }

    int weather(int w, int d, int e, int n) {
        if (out(w, 0, 3) || out(d, 0, 5) || out(e, 0, 5) || out(n, 1, 64)) return NONE;
        if (tapes[d] == null || tapes[e] == null) return refuse(NOTHING);
        if (!(tapes[d] instanceof int[]) || !(tapes[e] instanceof byte[])) return refuse(CAST);
        int[] a = (int[]) tapes[d];
        byte[] b = (byte[]) tapes[e];
        if (a.length < n || b.length < n) return refuse(PLACE);
        for (int k = 0; k < n; k++) if (out(a[k], 0, 9999) || out(b[k], -30, 30)) return UNABLE;
        inflow[w] = Arrays.copyOf(a, n);
        warmth[w] = new int[n];
        for (int k = 0; k < n; k++) warmth[w][k] = b[k];
        return n;
    }

    int gauge(int i, int lag) {
        if (no(i) || out(lag, -1, 6)) return NONE;
        int had = river.get(i).lag == null ? 0 : 1;
        river.get(i).lag = lag == -1 ? null : Integer.valueOf(lag);
        return had;
    }

    int eye(int i) {
        if (no(i)) return NONE;
        river.get(i).eye ^= true;
        return river.get(i).eye ? 1 : 0;
    }

    int crews(int n) {
        if (out(n, 1, 6)) return NONE;
        int old = crews;
        crews = n;
        return old;
    }

    boolean noAct(int kind, int cell) {
        if (out(kind, 0, 6) || no(cell)) return true;
        return (kind == 3 || kind == 4) && river.get(cell).kind != 3;
    }

    static final String[] NUMBERS = {"", "cv", "cv", "c", "v", "w", "", "", ""};
    static final int[] TAKES = {0, 0, 0, 0, 0, 0, 2, 2, 1};

    /** -1: no fault. */
    int firstFault(byte[] row) {
        int i = 0, depth = 0;
        while (i < row.length) {
            int at = i, op = row[i++];
            if (op < 0 || op > 8) return at;
            if (op == 0) return depth == 1 ? -1 : at;
            for (char c : NUMBERS[op].toCharArray()) {
                if (i == row.length) return at;
                int v = row[i++];
                if (c == 'c' && no(v)) return at;
                if (c == 'v' && v < 0) return at;
            }
            depth -= TAKES[op];
            if (depth < 0) return at;
            depth++;
            if (depth == 9) return at;
        }
        return row.length;
    }

    int rule(int kind, int cell, int d) {
        if (noAct(kind, cell) || out(d, 0, 5)) return NONE;
        if (tapes[d] == null) return refuse(NOTHING);
        if (!(tapes[d] instanceof byte[])) return refuse(CAST);
        byte[] row = (byte[]) tapes[d];
        int fault = firstFault(row);
        if (fault >= 0) return -100 - fault;
        int orders = 0, i = 0;
        while (row[i] != 0) { orders++; i += 1 + NUMBERS[row[i]].length(); }
        if (rules.size() == 12 || orders > 20) return FULL;
        int[] words = new int[i];
        for (int k = 0; k < i; k++) words[k] = row[k];
        rules.add(new Rule(kind, cell, words));
        version++;
        return rules.size() - 1;
    }

    int ruleless() {
        int n = rules.size();
        rules.clear();
        live.came.clear();
        version++;
        return n;
    }

    int act(int kind, int cell) {
        if (noAct(kind, cell)) return NONE;
        if (live.waiting.size() >= 40) return FULL;
        live.waiting.add(new Act(0, kind, cell));
        return live.waiting.size();
    }

    void wait(State s, Act a) { if (s.waiting.size() < 40) s.waiting.add(a); }

    int told(int[] row, int hour) { return row[Math.min(hour, row.length) - 1]; }

    /** The HOURS of KNOWN readings, the newest first. */
    List<Integer> hoursKnown(State s, int cell) {
        List<Integer> hours = new ArrayList<>();
        for (int h = s.hour; h >= 1; h--) if (s.known(cell, h, s.hour + 1) != null) hours.add(h);
        return hours;
    }

    boolean holds(State s, Rule r) {
        List<Boolean> stack = new ArrayList<>();
        int[] w = r.words();
        for (int i = 0; i < w.length; i += 1 + NUMBERS[w[i]].length()) {
            switch (w[i]) {
                case 1: {
                    List<Integer> h = hoursKnown(s, w[i + 1]);
                    stack.add(!h.isEmpty() && s.known(w[i + 1], h.get(0), s.hour + 1) >= 10 * w[i + 2]);
                    break;
                }
                case 2: {
                    List<Integer> h = hoursKnown(s, w[i + 1]);
                    stack.add(h.size() > 1 && s.known(w[i + 1], h.get(0), s.hour + 1)
                            >= w[i + 2] + s.known(w[i + 1], h.get(1), s.hour + 1));
                    break;
                }
                case 3: stack.add(river.get(w[i + 1]).eye && s.cells.get(w[i + 1]).jam > 0); break;
                case 4: stack.add(s.hour + 1 >= w[i + 1]); break;
                case 5: stack.add((s.hour == 0 ? 0 : s.warmth) >= w[i + 1]); break;
                case 6: { boolean b = stack.remove(stack.size() - 1), a = stack.remove(stack.size() - 1); stack.add(a && b); break; }
                case 7: { boolean b = stack.remove(stack.size() - 1), a = stack.remove(stack.size() - 1); stack.add(a || b); break; }
                default: stack.add(!stack.remove(stack.size() - 1));
            }
        }
        return stack.get(0);
    }

    void perform(State s, Act a) {
        Cell c = s.cells.get(a.cell());
        s.done++;
        switch (a.kind()) {
            case 0: if (c.sheet >= 15) { c.floes += c.sheet; c.sheet = 0; } break;
            case 1: c.floes += c.jam; c.jam = 0; break;
            case 2: if (c.bags < 100) c.bags += 10; break;
            case 3: if (river.get(a.cell()).kind == 3) c.shut = true; break;
            case 4: c.shut = false; break;
            case 5: c.people = c.people < 50 ? 0 : c.people - 50; break;
            default: { int t = c.room < c.water ? c.room : c.water; c.room -= t; c.water -= t; }
        }
    }

    /** An HOUR; the PLAN's ACTS bear the HOURS at which they come. */
    void hour(State s, int w, List<Act> planned, boolean ruled) {
        int h = s.hour + 1, n = river.size();
        int t = told(warmth[w], h);
        for (Act a : s.taken) if (a.hour() == h) wait(s, a);
        s.taken.removeIf(a -> a.hour() == h);
        for (Act a : planned) if (a.hour() == h) wait(s, a);
        if (ruled) {
            List<Integer> coming = new ArrayList<>();
            for (int r = 0; r < rules.size(); r++) {
                if (!s.came.containsKey(r) && holds(s, rules.get(r))) coming.add(r);
            }
            for (int r : coming) { s.came.put(r, h); wait(s, new Act(h, rules.get(r).kind(), rules.get(r).cell())); }
        }
        for (int k = 0; k < crews && !s.waiting.isEmpty(); k++) perform(s, s.waiting.remove(0));
        s.cells.get(0).water += told(inflow[w], h);
        int[] flow = new int[n];
        for (int i = 0; i < n; i++) {
            Cell c = s.cells.get(i);
            int fall = level(s, i) - level(s, i + 1);
            if (fall > 0 && !c.shut) {
                long pass = Math.floorDiv((long) fall * river.get(i).pass, 10L + c.jam + (c.sheet > 0 ? 20 : 0));
                flow[i] = (int) Math.min(pass, c.water);
            }
        }
        for (int i = 0; i < n; i++) {
            s.cells.get(i).flow = flow[i];
            s.cells.get(i).water += (i > 0 ? flow[i - 1] : 0) - flow[i];
        }
        ice(s, t);
        int[] falls = new int[n];
        for (int i = 0; i < n; i++) falls[i] = level(s, i) - level(s, i + 1);
        int[] gone = new int[n + 1];
        for (int i = 0; i < n; i++) {
            Cell c = s.cells.get(i);
            int hold = 30 + 2 * c.jam + (t < 0 ? 20 : 0);
            if (c.jam > 0 && falls[i] > hold) { gone[i + 1] = c.jam; c.jam = 0; }
        }
        for (int i = 0; i < n; i++) s.cells.get(i).floes += gone[i];
        s.hour = h;
        s.warmth = t;
        for (int i = 0; i < n; i++) {
            Cell c = s.cells.get(i);
            int l = level(s, i);
            if (l > river.get(i).bank + c.bags) s.harm += c.people;
            if (l > c.crest) { c.crest = l; c.crestHour = h; }
            Integer lag = river.get(i).lag;
            if (lag != null && c.sheet < 30) {
                s.book.computeIfAbsent(i + "/" + h, k -> new ArrayList<>()).add(new Told(l, h + (lag == 0 ? 1 : lag)));
            }
        }
    }

    /** (c), (d) and (e). */
    void ice(State s, int t) {
        int n = river.size();
        for (int i = 0; i < n; i++) {
            Cell c = s.cells.get(i);
            if (t < 0 && c.floes == 0 && c.jam == 0) {
                int grown = Math.min(200, c.sheet + Math.floorDiv(-t, 5 + Math.floorDiv(c.sheet, 10)));
                if (c.sheet == 0 && grown > 0) c.frozen = level(s, i);
                c.sheet = grown;
            }
            if (t > 0) c.sheet = Math.max(0, c.sheet - Math.floorDiv(t, 4));
        }
        for (int i = 0; i < n; i++) {
            Cell c = s.cells.get(i);
            if (c.sheet > 0 && river.get(i).kind != 4 && level(s, i) >= c.frozen + 10 + c.sheet) {
                c.floes += c.sheet;
                c.sheet = 0;
            }
        }
        int[] floes = new int[n + 1], jams = new int[n];
        for (int i = 0; i < n; i++) {
            Cell c = s.cells.get(i);
            floes[i] += c.floes;
            int kind = river.get(i).kind;
            if (kind == 4) continue;
            int m = Math.min(c.floes, Math.floorDiv(c.flow, 5));
            int most = kind == 0 ? 200 : kind == 1 ? 40 : kind == 2 ? 20 : c.shut ? 0 : 30;
            int p = i + 1 < n && s.cells.get(i + 1).sheet > 0 ? 0 : Math.min(m, most);
            floes[i] -= m;
            floes[i + 1] += p;
            jams[i] = m - p;
        }
        for (int i = 0; i < n; i++) {
            s.cells.get(i).floes = floes[i];
            s.cells.get(i).jam += jams[i];
        }
    }

    int run(int n) {
        if (out(n, 0, 200) || live.hour + n > 300) return NONE;
        for (int k = 0; k < n; k++) hour(live, 0, List.of(), true);
        return live.harm;
    }

    int again() { live = start(); return 0; }

    int now(int i, int what) {
        if (no(i) || out(what, 0, 10)) return NONE;
        Cell c = live.cells.get(i);
        int[] all = {level(live, i), c.water, c.sheet, c.floes, c.jam, c.bags, c.people, c.room,
            c.shut ? 1 : 0, c.sheet > 0 ? c.frozen : -2, c.flow};
        return all[what];
    }

    int crest(int i, int what) {
        if (no(i) || out(what, 0, 1) || live.hour == 0) return NONE;
        return what == 0 ? live.cells.get(i).crest : live.cells.get(i).crestHour;
    }

    int reading(int i, int hour, int at) {
        if (no(i)) return NONE;
        Integer level = live.known(i, hour, at);
        return level == null ? NONE : level;
    }

    int mend(int i, int hour, int level) {
        if (no(i) || out(hour, 1, live.hour) || out(level, 0, 9999)) return NONE;
        if (live.mends == 40) return FULL;
        live.mends++;
        live.book.computeIfAbsent(i + "/" + hour, k -> new ArrayList<>()).add(new Told(level, live.hour + 1));
        return 1;
    }

    int holds(int r) {
        if (out(r, 0, rules.size() - 1)) return NONE;
        return !live.came.containsKey(r) && holds(live, rules.get(r)) ? 1 : 0;
    }

    int came(int r) {
        return out(r, 0, rules.size() - 1) ? NONE : live.came.getOrDefault(r, -2);
    }

    int plan(int hour, int kind, int cell) {
        if (out(hour, 1, 96) || noAct(kind, cell)) return NONE;
        if (plan.size() == 8) return FULL;
        plan.add(new Act(hour, kind, cell));
        return plan.size();
    }

    int planless() { int n = plan.size(); plan.clear(); return n; }

    List<Act> chosen(int set) {
        List<Act> acts = new ArrayList<>();
        for (int i = 0; i < plan.size(); i++) {
            Act a = plan.get(i);
            if ((set & (1 << i)) != 0) acts.add(new Act(live.hour + a.hour(), a.kind(), a.cell()));
        }
        return acts;
    }

    boolean noSet(int set) { return out(set, 0, (1 << plan.size()) - 1); }

    int trial(int set, int w, int hours) {
        if (noSet(set) || out(w, 0, 3) || out(hours, 1, 96)) return NONE;
        State s = live.twin();
        for (int k = 0; k < hours; k++) hour(s, w, chosen(set), true);
        return s.harm - live.harm;
    }

    int best(int n, int hours) {
        if (out(n, 1, 4) || out(hours, 1, 96)) return NONE;
        int best = 0;
        int[] harms = new int[1 << plan.size()];
        for (int set = 0; set < harms.length; set++) {
            harms[set] = worst(set, n, hours);
            boolean fewer = Integer.bitCount(set) < Integer.bitCount(best);
            if (harms[set] < harms[best] || harms[set] == harms[best] && fewer) best = set;
        }
        return best;
    }

    int worst(int set, int n, int hours) {
        if (noSet(set) || out(n, 1, 4) || out(hours, 1, 96)) return NONE;
        int most = 0;
        for (int w = 0; w < n; w++) most = Math.max(most, trial(set, w, hours));
        return most;
    }

    int taken(int set) {
        if (noSet(set)) return NONE;
        List<Act> acts = chosen(set);
        if (live.taken.size() + acts.size() > 24) return FULL;
        live.taken.addAll(acts);
        return acts.size();
    }

    int mark(int cell, int low, int high) {
        if (no(cell) || out(low, 0, 9999) || out(high, 0, 9999) || low > high) return NONE;
        if (marks.size() == 10) return FULL;
        marks.add(new Mark(cell, low, high));
        return marks.size();
    }

    int fits(int w, int hours) {
        if (out(w, 0, 3) || out(hours, 1, 96)) return NONE;
        State s = start();
        for (int k = 0; k < hours; k++) hour(s, w, List.of(), false);
        for (Mark m : marks) if (out(s.cells.get(m.cell()).crest, m.low(), m.high())) return 0;
        return 1;
    }

    int tape(int d, int sort, int n) {
        if (out(d, 0, 5) || out(sort, 1, 4) || n > 100) return NONE;
        if (n < 0) return refuse(SIZE);
        tapes[d] = sort == 1 ? new byte[n] : sort == 2 ? new short[n] : sort == 3 ? (Object) new int[n] : new long[n];
        return n;
    }

    int keep(int d) {
        if (out(d, 0, 5)) return NONE;
        tapes[d] = live.twin();
        versions[d] = version;
        return live.hour;
    }

    int back(int d) {
        if (out(d, 0, 5)) return NONE;
        if (tapes[d] == null) return refuse(NOTHING);
        if (!(tapes[d] instanceof State)) return refuse(CAST);
        if (versions[d] != version) return UNABLE;
        live = ((State) tapes[d]).twin();
        return live.hour;
    }

    int toss(int d) {
        if (out(d, 0, 5)) return NONE;
        if (tapes[d] == null) return refuse(NOTHING);
        if (!(tapes[d] instanceof State)) return refuse(CAST);
        int harm = ((State) tapes[d]).harm;
        return harm == 0 ? refuse(THROWN) : harm;
    }

    int sortOf(int d) {
        Object t = tapes[d];
        if (t == null) return 0;
        return t instanceof byte[] ? 1 : t instanceof short[] ? 2 : t instanceof int[] ? 3 : t instanceof long[] ? 4 : 5;
    }

    int clear(int d) {
        if (out(d, 0, 5)) return NONE;
        int sort = sortOf(d);
        tapes[d] = null;
        return sort;
    }

    int put(int d, int i, long v) {
        if (out(d, 0, 5)) return NONE;
        if (tapes[d] == null) return refuse(NOTHING);
        if (tapes[d] instanceof State) return refuse(CAST);
        if (out(i, 0, java.lang.reflect.Array.getLength(tapes[d]) - 1)) return refuse(PLACE);
        switch (sortOf(d)) {
            case 1: ((byte[]) tapes[d])[i] = (byte) v; break;
            case 2: ((short[]) tapes[d])[i] = (short) v; break;
            case 3: ((int[]) tapes[d])[i] = (int) v; break;
            default: ((long[]) tapes[d])[i] = v;
        }
        return 1;
    }

    long at(int d, int i) {
        if (out(d, 0, 5)) throw new IllegalArgumentException();
        if (tapes[d] == null || tapes[d] instanceof State) throw new IllegalStateException();
        if (out(i, 0, java.lang.reflect.Array.getLength(tapes[d]) - 1)) throw new IllegalStateException();
        return java.lang.reflect.Array.getLong(tapes[d], i);
    }

    int copy(int d, int i, int e, int j, int n) {
        if (out(d, 0, 5) || out(e, 0, 5)) return NONE;
        if (tapes[d] == null || tapes[e] == null) return refuse(NOTHING);
        if (sortOf(d) == 5 || sortOf(d) != sortOf(e)) return refuse(CAST);
        try {
            System.arraycopy(tapes[d], i, tapes[e], j, n);
        } catch (IndexOutOfBoundsException x) {
            return refuse(PLACE);
        }
        return n;
    }

    int count(int what) {
        int ice = 0;
        for (Cell c : live.cells) ice += c.floes + c.jam;
        int[] all = {river.size(), live.hour, live.harm, live.waiting.size(), live.done, rules.size(),
            plan.size(), marks.size(), ice, refusals};
        return out(what, 0, 9) ? NONE : all[what];
    }
}
