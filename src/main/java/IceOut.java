/**
 * A river whose ice goes out, hour by hour. The document ../shared/DOC.md says what each call
 * answers; the words in capitals in the comments are its words.
 */
public final class IceOut {

    public static final int NONE = -1, FULL = -2, STARTED = -3, UNABLE = -4;
    public static final int NOTHING = -11, CAST = -12, PLACE = -13, SIZE = -14, THROWN = -15;

    private static final int FEWEST_CELLS = 2, MOST_CELLS = 24, FIRST_CELLS = 4;
    private static final int LAST_HOUR = 300, MOST_HOURS_AT_ONCE = 200, LONGEST_TRIAL = 96;
    private static final int MOST_WAITING = 40, MOST_TAKEN = 24, MOST_PLANNED = 8;
    private static final int MOST_RULES = 12, MOST_ORDERS = 20, MOST_STACKED = 8;
    private static final int MOST_MENDS = 40, MOST_MARKS = 10, HIGHEST_TOLD = 9999;
    private static final int WEATHERS = 4, LONGEST_WEATHER = 64;
    private static final int TAPES = 6, LONGEST_ROW = 100;
    private static final int MOST_CREWS = 6, FIRST_CREWS = 2, LONGEST_LAG = 6;

    private static final int MOST_BED = 2000, MOST_AREA = 100, MOST_PASS = 100;
    private static final int MOST_WATER = 200000, THICKEST = 200;
    private static final int MOST_PEOPLE = 9999, HIGHEST_BANK = 4000, MOST_ROOM = 100000;
    private static final int HIGHEST_SEA = 4000, MOST_INFLOW = 9999, COLDEST = -30, WARMEST = 30;

    private static final int REACH = 0, GATE = 3, LAKE = 4;
    private static final int CUT = 0, CLEAR = 1, BAG = 2, SHUT = 3, OPEN = 4, MOVE = 5, LET = 6;
    private static final int EMPTY = 0, BYTES = 1, SHORTS = 2, INTS = 3, LONGS = 4, KEPT = 5;
    private static final int NO_BOUND = 0x7FFFFFFF;
    private static final int NOT_YET = -2, NO_SHEET = -2, FAULT = -100, SOUND = -1;

    private final River river;
    private final Weather[] weathers;
    private final Rules rules;
    private final Acts plan;
    private final Marks marks;
    private final State live;
    private final State tried;
    private final Stepper stepper;
    private final Tape[] tapes;
    /** How often something was told that makes the STATES of before useless. */
    private int tellings;
    private int refusals;

    public IceOut() {
        river = new River();
        weathers = new Weather[WEATHERS];
        for (int w = 0; w < WEATHERS; w++) {
            weathers[w] = new Weather();
        }
        rules = new Rules();
        plan = new Acts(MOST_PLANNED);
        marks = new Marks();
        live = new State(new Book(LAST_HOUR + LONGEST_TRIAL));
        // A TRIAL's readings are of HOURS behind now: THE RUN writes those anew before it looks.
        tried = new State(live.book);
        stepper = new Stepper(river, rules);
        tapes = new Tape[TAPES];
        for (int d = 0; d < TAPES; d++) {
            tapes[d] = new Tape();
        }
        layOut(FIRST_CELLS);
    }

    // ---- the river at the START

    public int begin(int cells) {
        if (!isWithin(cells, FEWEST_CELLS, MOST_CELLS)) {
            return NONE;
        }
        layOut(cells);
        return cells;
    }

    public int cell(int i, int kind, int bed, int area, int pass) {
        if (!hasCell(i) || !isWithin(kind, REACH, LAKE) || !isWithin(bed, 0, MOST_BED)
                || !isWithin(area, 1, MOST_AREA) || !isWithin(pass, 1, MOST_PASS)) {
            return NONE;
        }
        if (live.hour > 0) {
            return STARTED;
        }
        river.kind[i] = kind;
        river.bed[i] = bed;
        river.area[i] = area;
        river.pass[i] = pass;
        return startCellAnew(i);
    }

    public int fill(int i, int water, int sheet) {
        if (!hasCell(i) || !isWithin(water, 0, MOST_WATER) || !isWithin(sheet, 0, THICKEST)) {
            return NONE;
        }
        if (live.hour > 0) {
            return STARTED;
        }
        river.water[i] = water;
        river.sheet[i] = sheet;
        return startCellAnew(i);
    }

    public int town(int i, int people, int bank, int room) {
        if (!hasCell(i) || !isWithin(people, 0, MOST_PEOPLE) || !isWithin(bank, 0, HIGHEST_BANK)
                || !isWithin(room, 0, MOST_ROOM)) {
            return NONE;
        }
        if (live.hour > 0) {
            return STARTED;
        }
        river.people[i] = people;
        river.bank[i] = bank;
        river.room[i] = room;
        startCellAnew(i);
        return 0;
    }

    public int sea(int level) {
        if (!isWithin(level, 0, HIGHEST_SEA)) {
            return NONE;
        }
        if (live.hour > 0) {
            return STARTED;
        }
        int before = river.sea;
        river.sea = level;
        tellings++;
        return before;
    }

    public int weather(int w, int d, int e, int n) {
        if (!hasWeather(w) || !hasTape(d) || !hasTape(e) || !isWithin(n, 1, LONGEST_WEATHER)) {
            return NONE;
        }
        Tape inflows = tapes[d];
        Tape warmths = tapes[e];
        if (inflows.sort == EMPTY || warmths.sort == EMPTY) {
            return refused(NOTHING);
        }
        if (inflows.sort != INTS || warmths.sort != BYTES) {
            return refused(CAST);
        }
        if (!inflows.hasSpan(0, n) || !warmths.hasSpan(0, n)) {
            return refused(PLACE);
        }
        if (!inflows.isAllWithin(n, 0, MOST_INFLOW) || !warmths.isAllWithin(n, COLDEST, WARMEST)) {
            return UNABLE;
        }
        weathers[w].become(inflows, warmths, n);
        return n;
    }

    // ---- gauges, eyes, crews, rules, acts

    public int gauge(int i, int lag) {
        if (!hasCell(i) || !isWithin(lag, NONE, LONGEST_LAG)) {
            return NONE;
        }
        int before = river.lag[i];
        river.lag[i] = lag;
        return before == NONE ? 0 : 1;
    }

    public int eye(int i) {
        if (!hasCell(i)) {
            return NONE;
        }
        river.eye[i] = !river.eye[i];
        return river.eye[i] ? 1 : 0;
    }

    public int crews(int n) {
        if (!isWithin(n, 1, MOST_CREWS)) {
            return NONE;
        }
        int before = river.crews;
        river.crews = n;
        return before;
    }

    public int rule(int kind, int cell, int d) {
        if (!isAct(kind, cell) || !hasTape(d)) {
            return NONE;
        }
        Tape words = tapes[d];
        if (words.sort == EMPTY) {
            return refused(NOTHING);
        }
        if (words.sort != BYTES) {
            return refused(CAST);
        }
        int fault = Rules.firstFault(words, river.cells);
        if (fault != SOUND) {
            return FAULT - fault;
        }
        if (rules.size >= MOST_RULES || Rules.ordersIn(words) > MOST_ORDERS) {
            return FULL;
        }
        int number = rules.size;
        rules.add(kind, cell, words);
        live.came[number] = NOT_YET;
        tellings++;
        return number;
    }

    public int ruleless() {
        int before = rules.size;
        rules.size = 0;
        tellings++;
        return before;
    }

    public int act(int kind, int cell) {
        if (!isAct(kind, cell)) {
            return NONE;
        }
        if (live.waiting.isFull()) {
            return FULL;
        }
        live.waiting.add(0, kind, cell);
        return live.waiting.size;
    }

    // ---- THE RUN

    public int run(int n) {
        if (!isWithin(n, 0, MOST_HOURS_AT_ONCE) || live.hour + n > LAST_HOUR) {
            return NONE;
        }
        for (int k = 0; k < n; k++) {
            stepper.step(live, weathers[0], true);
        }
        return live.harm;
    }

    public int again() {
        startAnew();
        return 0;
    }

    public int now(int i, int what) {
        if (!hasCell(i)) {
            return NONE;
        }
        switch (what) {
            case 0: return river.levelOf(i, live.water[i]);
            case 1: return live.water[i];
            case 2: return live.sheet[i];
            case 3: return live.floes[i];
            case 4: return live.jam[i];
            case 5: return live.bags[i];
            case 6: return live.people[i];
            case 7: return live.room[i];
            case 8: return live.shut[i];
            case 9: return live.sheet[i] > 0 ? live.frozen[i] : NO_SHEET;
            case 10: return live.flow[i];
            default: return NONE;
        }
    }

    public int crest(int i, int what) {
        if (!hasCell(i) || !isWithin(what, 0, 1) || live.hour == 0) {
            return NONE;
        }
        return what == 0 ? live.crest[i] : live.crestHour[i];
    }

    public int reading(int i, int hour, int at) {
        if (!hasCell(i) || !isWithin(hour, 1, live.hour)) {
            return NONE;
        }
        return live.book.levelKnown(hour, i, at);
    }

    public int mend(int i, int hour, int level) {
        if (!hasCell(i) || !isWithin(hour, 1, live.hour) || !isWithin(level, 0, HIGHEST_TOLD)) {
            return NONE;
        }
        if (live.book.mends >= MOST_MENDS) {
            return FULL;
        }
        live.book.tellAnew(hour, i, level, live.hour);
        return 1;
    }

    public int holds(int rule) {
        if (!hasRule(rule)) {
            return NONE;
        }
        return live.came[rule] == NOT_YET && stepper.wordsHold(rule, live) ? 1 : 0;
    }

    public int came(int rule) {
        return hasRule(rule) ? live.came[rule] : NONE;
    }

    // ---- the PLAN, TRIALS, MARKS

    public int plan(int hour, int kind, int cell) {
        if (!isWithin(hour, 1, LONGEST_TRIAL) || !isAct(kind, cell)) {
            return NONE;
        }
        if (plan.isFull()) {
            return FULL;
        }
        plan.add(hour, kind, cell);
        return plan.size;
    }

    public int planless() {
        int before = plan.size;
        plan.size = 0;
        return before;
    }

    public int trial(int set, int w, int hours) {
        if (!hasSet(set) || !hasWeather(w) || !isLength(hours)) {
            return NONE;
        }
        return mostHarm(set, w, w + 1, hours, NO_BOUND);
    }

    public int best(int n, int hours) {
        if (!isWithin(n, 1, WEATHERS) || !isLength(hours)) {
            return NONE;
        }
        int best = 0;
        int least = NO_BOUND;
        // An ACT behind the last HOUR never comes: the set without it does the same with fewer.
        int late = plan.maskBehind(hours);
        for (int acts = 0; acts <= plan.size; acts++) {
            for (int set = 0; set < 1 << plan.size && least > 0; set++) {
                if (Integer.bitCount(set) == acts && (set & late) == 0) {
                    int harm = mostHarm(set, 0, n, hours, least);
                    if (harm < least) {
                        least = harm;
                        best = set;
                    }
                }
            }
        }
        return best;
    }

    public int worst(int set, int n, int hours) {
        if (!hasSet(set) || !isWithin(n, 1, WEATHERS) || !isLength(hours)) {
            return NONE;
        }
        return mostHarm(set, 0, n, hours, NO_BOUND);
    }

    public int taken(int set) {
        if (!hasSet(set)) {
            return NONE;
        }
        int many = Integer.bitCount(set);
        if (live.taken.size + many > MOST_TAKEN) {
            return FULL;
        }
        takeSet(live, set);
        return many;
    }

    public int mark(int cell, int low, int high) {
        if (!hasCell(cell) || !isWithin(low, 0, HIGHEST_TOLD) || !isWithin(high, low, HIGHEST_TOLD)) {
            return NONE;
        }
        if (marks.size >= MOST_MARKS) {
            return FULL;
        }
        marks.add(cell, low, high);
        return marks.size;
    }

    public int fits(int w, int hours) {
        if (!hasWeather(w) || !isLength(hours)) {
            return NONE;
        }
        tried.startFrom(river);
        for (int k = 0; k < hours; k++) {
            stepper.step(tried, weathers[w], false);
        }
        return marks.areMetBy(tried.crest) ? 1 : 0;
    }

    // ---- TAPES

    public int tape(int d, int sort, int n) {
        if (!hasTape(d) || !isWithin(sort, BYTES, LONGS) || n > LONGEST_ROW) {
            return NONE;
        }
        if (n < 0) {
            return refused(SIZE);
        }
        tapes[d].becomeRow(sort, n);
        return n;
    }

    public int keep(int d) {
        if (!hasTape(d)) {
            return NONE;
        }
        Tape tape = tapes[d];
        tape.sort = KEPT;
        tape.tellings = tellings;
        tape.state.takeAllFrom(live);
        return live.hour;
    }

    public int back(int d) {
        if (!hasTape(d)) {
            return NONE;
        }
        Tape tape = tapes[d];
        if (tape.sort != KEPT) {
            return refused(tape.sort == EMPTY ? NOTHING : CAST);
        }
        if (tape.tellings != tellings) {
            return UNABLE;
        }
        live.takeAllFrom(tape.state);
        return live.hour;
    }

    public int toss(int d) {
        if (!hasTape(d)) {
            return NONE;
        }
        Tape tape = tapes[d];
        if (tape.sort != KEPT) {
            return refused(tape.sort == EMPTY ? NOTHING : CAST);
        }
        return tape.state.harm > 0 ? tape.state.harm : refused(THROWN);
    }

    public int clear(int d) {
        if (!hasTape(d)) {
            return NONE;
        }
        int before = tapes[d].sort;
        tapes[d].sort = EMPTY;
        return before;
    }

    public int put(int d, int i, long v) {
        if (!hasTape(d)) {
            return NONE;
        }
        Tape tape = tapes[d];
        if (!tape.isRow()) {
            return refused(tape.sort == EMPTY ? NOTHING : CAST);
        }
        if (!tape.hasPlace(i)) {
            return refused(PLACE);
        }
        tape.row[i] = tape.narrowed(v);
        return 1;
    }

    public long at(int d, int i) throws IllegalArgumentException, IllegalStateException {
        if (!hasTape(d)) {
            throw new IllegalArgumentException();
        }
        Tape tape = tapes[d];
        if (!tape.isRow() || !tape.hasPlace(i)) {
            throw new IllegalStateException();
        }
        return tape.row[i];
    }

    public int copy(int d, int i, int e, int j, int n) {
        if (!hasTape(d) || !hasTape(e)) {
            return NONE;
        }
        Tape source = tapes[d];
        Tape target = tapes[e];
        if (source.sort == EMPTY || target.sort == EMPTY) {
            return refused(NOTHING);
        }
        if (!source.isRow() || source.sort != target.sort) {
            return refused(CAST);
        }
        if (!source.hasSpan(i, n) || !target.hasSpan(j, n)) {
            return refused(PLACE);
        }
        System.arraycopy(source.row, i, target.row, j, n);
        return n;
    }

    public int count(int what) {
        switch (what) {
            case 0: return river.cells;
            case 1: return live.hour;
            case 2: return live.harm;
            case 3: return live.waiting.size;
            case 4: return live.done;
            case 5: return rules.size;
            case 6: return plan.size;
            case 7: return marks.size;
            case 8: return live.looseIce(river.cells);
            case 9: return refusals;
            default: return NONE;
        }
    }

    // ---- what the calls share

    private static boolean isWithin(int number, int least, int most) {
        return number >= least && number <= most;
    }

    private static boolean isLength(int hours) {
        return isWithin(hours, 1, LONGEST_TRIAL);
    }

    private static boolean hasWeather(int w) {
        return isWithin(w, 0, WEATHERS - 1);
    }

    private static boolean hasTape(int d) {
        return isWithin(d, 0, TAPES - 1);
    }

    private boolean hasCell(int i) {
        return isWithin(i, 0, river.cells - 1);
    }

    private boolean hasRule(int number) {
        return isWithin(number, 0, rules.size - 1);
    }

    private boolean hasSet(int set) {
        return isWithin(set, 0, (1 << plan.size) - 1);
    }

    private boolean isAct(int kind, int cell) {
        return isWithin(kind, CUT, LET) && hasCell(cell)
                && (kind != SHUT && kind != OPEN || river.kind[cell] == GATE);
    }

    /** Counts a refusal of the host's. */
    private int refused(int why) {
        refusals++;
        return why;
    }

    private void layOut(int cells) {
        river.layOut(cells);
        for (int w = 0; w < WEATHERS; w++) {
            weathers[w].calm();
        }
        rules.size = 0;
        plan.size = 0;
        marks.size = 0;
        refusals = 0;
        tellings++;
        startAnew();
    }

    private void startAnew() {
        live.startFrom(river);
        live.book.forget();
    }

    private int startCellAnew(int i) {
        tellings++;
        live.startCell(river, i);
        return river.levelOf(i, live.water[i]);
    }

    /**
     * The greatest HARM that a set does in the WEATHERS first .. behind - 1. Whoever needs no
     * more than to know that it is enough spares the HOURS that are left then.
     */
    private int mostHarm(int set, int first, int behind, int hours, int enough) {
        int most = 0;
        for (int w = first; w < behind && most < enough; w++) {
            tried.takeFrom(live);
            takeSet(tried, set);
            for (int k = 0; k < hours && tried.harm - live.harm < enough; k++) {
                stepper.step(tried, weathers[w], true);
            }
            most = Math.max(most, tried.harm - live.harm);
        }
        return most;
    }

    /** Behind those TAKEN is just where a TRIAL's PLAN comes, so it needs no list of its own. */
    private void takeSet(State state, int set) {
        for (int k = 0; k < plan.size; k++) {
            if ((set >> k & 1) == 1) {
                state.taken.add(state.hour + plan.hour[k], plan.kind[k], plan.cell[k]);
            }
        }
    }

    /** What is told of the river and stays so while THE RUN goes on. */
    private static final class River {
        int cells;
        int sea;
        int crews;
        final int[] kind = new int[MOST_CELLS];
        final int[] bed = new int[MOST_CELLS];
        final int[] area = new int[MOST_CELLS];
        final int[] pass = new int[MOST_CELLS];
        final int[] water = new int[MOST_CELLS];
        final int[] sheet = new int[MOST_CELLS];
        final int[] people = new int[MOST_CELLS];
        final int[] bank = new int[MOST_CELLS];
        final int[] room = new int[MOST_CELLS];
        /** NONE: no GAUGE. */
        final int[] lag = new int[MOST_CELLS];
        final boolean[] eye = new boolean[MOST_CELLS];

        void layOut(int many) {
            cells = many;
            sea = 0;
            crews = FIRST_CREWS;
            for (int i = 0; i < many; i++) {
                kind[i] = REACH;
                bed[i] = 100 * (many - 1 - i);
                area[i] = 10;
                pass[i] = 20;
                water[i] = 0;
                sheet[i] = 0;
                people[i] = 0;
                bank[i] = HIGHEST_BANK;
                room[i] = 0;
                lag[i] = NONE;
                eye[i] = false;
            }
        }

        int levelOf(int i, int waterThere) {
            return bed[i] + waterThere / area[i];
        }
    }

    private static final class Weather {
        final int[] inflow = new int[LONGEST_WEATHER];
        final int[] warmth = new int[LONGEST_WEATHER];
        int length = 1;

        void calm() {
            length = 1;
            inflow[0] = 0;
            warmth[0] = 0;
        }

        void become(Tape inflows, Tape warmths, int n) {
            length = n;
            for (int k = 0; k < n; k++) {
                inflow[k] = (int) inflows.row[k];
                warmth[k] = (int) warmths.row[k];
            }
        }

        int inflowAt(int hour) {
            return inflow[Math.min(hour, length) - 1];
        }

        int warmthAt(int hour) {
            return warmth[Math.min(hour, length) - 1];
        }
    }

    /** ACTS in their order, with HOURS where those are told. */
    private static final class Acts {
        final int[] hour;
        final int[] kind;
        final int[] cell;
        int size;

        Acts(int most) {
            hour = new int[most];
            kind = new int[most];
            cell = new int[most];
        }

        boolean isFull() {
            return size >= kind.length;
        }

        /** What comes beyond the most is lost. */
        void add(int itsHour, int itsKind, int itsCell) {
            if (!isFull()) {
                hour[size] = itsHour;
                kind[size] = itsKind;
                cell[size] = itsCell;
                size++;
            }
        }

        void dropFirst(int n) {
            int left = size - n;
            System.arraycopy(kind, n, kind, 0, left);
            System.arraycopy(cell, n, cell, 0, left);
            size = left;
        }

        /** Those for an HOUR go behind others, in their order. */
        void moveThoseFor(int thatHour, Acts others) {
            int left = 0;
            for (int k = 0; k < size; k++) {
                if (hour[k] == thatHour) {
                    others.add(thatHour, kind[k], cell[k]);
                } else {
                    hour[left] = hour[k];
                    kind[left] = kind[k];
                    cell[left] = cell[k];
                    left++;
                }
            }
            size = left;
        }

        int maskBehind(int lastHour) {
            int mask = 0;
            for (int k = 0; k < size; k++) {
                if (hour[k] > lastHour) {
                    mask |= 1 << k;
                }
            }
            return mask;
        }

        void takeFrom(Acts other) {
            size = Math.min(other.size, kind.length);
            System.arraycopy(other.hour, 0, hour, 0, size);
            System.arraycopy(other.kind, 0, kind, 0, size);
            System.arraycopy(other.cell, 0, cell, 0, size);
        }
    }

    /** RULES with their words, each ORDER in three places: itself, its CELL, its number. */
    private static final class Rules {
        static final int READS = 1, RISES = 2, SEES = 3, HOUR_IS = 4, WARMTH_IS = 5;
        static final int BOTH = 6, EITHER = 7, NOT = 8, END = 0;

        final int[] kind = new int[MOST_RULES];
        final int[] cell = new int[MOST_RULES];
        final int[] orders = new int[MOST_RULES];
        final int[] order = new int[MOST_RULES * MOST_ORDERS];
        final int[] place = new int[MOST_RULES * MOST_ORDERS];
        final int[] number = new int[MOST_RULES * MOST_ORDERS];
        int size;

        static boolean hasCell(int order) {
            return order >= READS && order <= SEES;
        }

        static boolean hasNumber(int order) {
            return order == READS || order == RISES || order == HOUR_IS || order == WARMTH_IS;
        }

        static int lengthOf(int order) {
            return 1 + (hasCell(order) ? 1 : 0) + (hasNumber(order) ? 1 : 0);
        }

        /** SOUND, if there is none. */
        static int firstFault(Tape words, int cells) {
            int stacked = 0;
            for (int p = 0; p < words.length; p += lengthOf((int) words.row[p])) {
                int order = (int) words.row[p];
                if (order == END) {
                    return stacked == 1 ? SOUND : p;
                }
                if (order < READS || order > NOT || !areNumbersSound(words, p, order, cells)) {
                    return p;
                }
                int used = order == NOT ? 1 : order >= BOTH ? 2 : 0;
                if (stacked < used || stacked - used + 1 > MOST_STACKED) {
                    return p;
                }
                stacked = stacked - used + 1;
            }
            return words.length;
        }

        private static boolean areNumbersSound(Tape words, int p, int order, int cells) {
            int last = p + lengthOf(order) - 1;
            if (last >= words.length) {
                return false;
            }
            if (hasCell(order) && (words.row[p + 1] < 0 || words.row[p + 1] >= cells)) {
                return false;
            }
            return !hasNumber(order) || order == WARMTH_IS || words.row[last] >= 0;
        }

        /** Of sound words; the end is no ORDER. */
        static int ordersIn(Tape words) {
            int many = 0;
            for (int p = 0; p < words.length && words.row[p] != END;
                    p += lengthOf((int) words.row[p])) {
                many++;
            }
            return many;
        }

        /** Of sound words that are not too many, while there is room for one more. */
        void add(int itsKind, int itsCell, Tape words) {
            kind[size] = itsKind;
            cell[size] = itsCell;
            orders[size] = ordersIn(words);
            int p = 0;
            for (int k = size * MOST_ORDERS; k < size * MOST_ORDERS + orders[size]; k++) {
                order[k] = (int) words.row[p];
                int length = lengthOf(order[k]);
                place[k] = hasCell(order[k]) ? (int) words.row[p + 1] : 0;
                number[k] = hasNumber(order[k]) ? (int) words.row[p + length - 1] : 0;
                p += length;
            }
            size++;
        }
    }

    /** Readings, HOUR by HOUR and CELL by CELL, as they were told last, and what MENDS replaced. */
    private static final class Book {
        final int[] level;
        /** The HOUR from whose ACTS on a reading is KNOWN; 0: there is none. */
        final int[] from;
        /** The newest HOUR with a reading, up to this one: spares long ways over empty HOURS. */
        final int[] newest;
        final int[] mendPlace = new int[MOST_MENDS];
        final int[] olderLevel = new int[MOST_MENDS];
        final int[] olderFrom = new int[MOST_MENDS];
        int mends;

        Book(int hours) {
            level = new int[(hours + 1) * MOST_CELLS];
            from = new int[(hours + 1) * MOST_CELLS];
            newest = new int[(hours + 1) * MOST_CELLS];
        }

        /** HOURS that are not over are never looked at, so their old rows may lie there. */
        void forget() {
            mends = 0;
        }

        void write(int hour, int cell, int itsLevel, int knownFrom) {
            int p = hour * MOST_CELLS + cell;
            level[p] = itsLevel;
            from[p] = knownFrom;
            newest[p] = knownFrom > 0 ? hour : newest[p - MOST_CELLS];
        }

        void tellAnew(int hour, int cell, int itsLevel, int lastHour) {
            int p = hour * MOST_CELLS + cell;
            mendPlace[mends] = p;
            olderLevel[mends] = level[p];
            olderFrom[mends] = from[p];
            mends++;
            level[p] = itsLevel;
            from[p] = lastHour + 1;
            for (int h = hour; h <= lastHour; h++) {
                int q = h * MOST_CELLS + cell;
                newest[q] = Math.max(newest[q], hour);
            }
        }

        /** As KNOWN at the ACTS of any HOUR; NONE, if there is none. */
        int levelKnown(int hour, int cell, int at) {
            int p = hour * MOST_CELLS + cell;
            int itsLevel = level[p];
            int itsFrom = from[p];
            for (int m = mends - 1; m >= 0 && itsFrom > at; m--) {
                if (mendPlace[m] == p) {
                    itsLevel = olderLevel[m];
                    itsFrom = olderFrom[m];
                }
            }
            return itsFrom > 0 && itsFrom <= at ? itsLevel : NONE;
        }

        /**
         * The newest HOUR up to one that is over, whose reading is KNOWN; 0, if there is none.
         * Only for the next HOUR's ACTS: at those all MENDS are KNOWN.
         */
        int newestKnown(int upTo, int cell, int at) {
            int hour = newest[upTo * MOST_CELLS + cell];
            while (hour > 0 && from[hour * MOST_CELLS + cell] > at) {
                hour = Math.min(hour - 1, newest[(hour - 1) * MOST_CELLS + cell]);
            }
            return hour;
        }

        int levelTold(int hour, int cell) {
            return level[hour * MOST_CELLS + cell];
        }

        void takeFrom(Book other, int lastHour) {
            int many = (lastHour + 1) * MOST_CELLS;
            System.arraycopy(other.level, 0, level, 0, many);
            System.arraycopy(other.from, 0, from, 0, many);
            System.arraycopy(other.newest, 0, newest, 0, many);
            mends = other.mends;
            System.arraycopy(other.mendPlace, 0, mendPlace, 0, mends);
            System.arraycopy(other.olderLevel, 0, olderLevel, 0, mends);
            System.arraycopy(other.olderFrom, 0, olderFrom, 0, mends);
        }
    }

    /** All that HOURS change: THE RUN, a TRIAL, or a STATE on a TAPE. */
    private static final class State {
        int hour;
        int harm;
        int done;
        /** The TEMPERATURE of the last HOUR: its WEATHER may be told anew behind it. */
        int warmth;
        final int[] water = new int[MOST_CELLS];
        final int[] sheet = new int[MOST_CELLS];
        final int[] frozen = new int[MOST_CELLS];
        final int[] floes = new int[MOST_CELLS];
        final int[] jam = new int[MOST_CELLS];
        final int[] flow = new int[MOST_CELLS];
        final int[] bags = new int[MOST_CELLS];
        final int[] people = new int[MOST_CELLS];
        final int[] room = new int[MOST_CELLS];
        /** 1, if it is a GATE that is shut. */
        final int[] shut = new int[MOST_CELLS];
        final int[] crest = new int[MOST_CELLS];
        final int[] crestHour = new int[MOST_CELLS];
        final int[] came = new int[MOST_RULES];
        final Acts waiting = new Acts(MOST_WAITING);
        final Acts taken = new Acts(MOST_TAKEN + MOST_PLANNED);
        final Book book;

        State(Book itsBook) {
            book = itsBook;
        }

        /** The book stays: a TRIAL from the START must not empty THE RUN's. */
        void startFrom(River river) {
            hour = 0;
            harm = 0;
            done = 0;
            warmth = 0;
            waiting.size = 0;
            taken.size = 0;
            for (int r = 0; r < MOST_RULES; r++) {
                came[r] = NOT_YET;
            }
            for (int i = 0; i < river.cells; i++) {
                startCell(river, i);
            }
        }

        void startCell(River river, int i) {
            water[i] = river.water[i];
            sheet[i] = river.sheet[i];
            frozen[i] = river.levelOf(i, river.water[i]);
            floes[i] = 0;
            jam[i] = 0;
            flow[i] = 0;
            bags[i] = 0;
            people[i] = river.people[i];
            room[i] = river.room[i];
            shut[i] = 0;
            crest[i] = NONE;
            crestHour[i] = 0;
        }

        void takeFrom(State other) {
            hour = other.hour;
            harm = other.harm;
            done = other.done;
            warmth = other.warmth;
            System.arraycopy(other.water, 0, water, 0, MOST_CELLS);
            System.arraycopy(other.sheet, 0, sheet, 0, MOST_CELLS);
            System.arraycopy(other.frozen, 0, frozen, 0, MOST_CELLS);
            System.arraycopy(other.floes, 0, floes, 0, MOST_CELLS);
            System.arraycopy(other.jam, 0, jam, 0, MOST_CELLS);
            System.arraycopy(other.flow, 0, flow, 0, MOST_CELLS);
            System.arraycopy(other.bags, 0, bags, 0, MOST_CELLS);
            System.arraycopy(other.people, 0, people, 0, MOST_CELLS);
            System.arraycopy(other.room, 0, room, 0, MOST_CELLS);
            System.arraycopy(other.shut, 0, shut, 0, MOST_CELLS);
            System.arraycopy(other.crest, 0, crest, 0, MOST_CELLS);
            System.arraycopy(other.crestHour, 0, crestHour, 0, MOST_CELLS);
            System.arraycopy(other.came, 0, came, 0, MOST_RULES);
            waiting.takeFrom(other.waiting);
            taken.takeFrom(other.taken);
        }

        void takeAllFrom(State other) {
            takeFrom(other);
            book.takeFrom(other.book, other.hour);
        }

        int looseIce(int cells) {
            int all = 0;
            for (int i = 0; i < cells; i++) {
                all += floes[i] + jam[i];
            }
            return all;
        }
    }

    /** Lets HOURS go by over a STATE. */
    private static final class Stepper {
        private static final int[] MOST_FLOES = {200, 40, 20, 30};

        final River river;
        final Rules rules;
        /** The LEVELS when they were taken last; behind the last CELL THE SEA's. */
        final int[] level = new int[MOST_CELLS + 1];
        final boolean[] stack = new boolean[MOST_STACKED];

        Stepper(River itsRiver, Rules itsRules) {
            river = itsRiver;
            rules = itsRules;
        }

        /** Without RULES nobody looks at GAUGES, and a STATE may have another's book. */
        void step(State s, Weather weather, boolean ruled) {
            int hour = s.hour + 1;
            int warmth = weather.warmthAt(hour);
            s.taken.moveThoseFor(hour, s.waiting);
            if (ruled) {
                letRulesCome(s, hour);
            }
            doActs(s);
            s.water[0] += weather.inflowAt(hour);
            letFlow(s);
            takeLevels(s);
            if (warmth < 0) {
                freeze(s, -warmth);
            } else {
                melt(s, warmth / 4);
            }
            breakSheets(s);
            drift(s);
            letJamsGo(s, warmth < 0 ? 50 : 30);
            s.hour = hour;
            s.warmth = warmth;
            countHarm(s);
            noteCrests(s);
            if (ruled) {
                readGauges(s);
            }
        }

        private void letRulesCome(State s, int hour) {
            for (int r = 0; r < rules.size; r++) {
                if (s.came[r] == NOT_YET && wordsHold(r, s)) {
                    s.came[r] = hour;
                    s.waiting.add(hour, rules.kind[r], rules.cell[r]);
                }
            }
        }

        /** For the ACTS of the STATE's next HOUR. */
        boolean wordsHold(int rule, State s) {
            int stacked = 0;
            int first = rule * MOST_ORDERS;
            for (int k = first; k < first + rules.orders[rule]; k++) {
                int order = rules.order[k];
                if (order == Rules.NOT && stacked > 0) {
                    stack[stacked - 1] = !stack[stacked - 1];
                } else if (order == Rules.BOTH && stacked > 1) {
                    stacked--;
                    stack[stacked - 1] = stack[stacked - 1] && stack[stacked];
                } else if (order == Rules.EITHER && stacked > 1) {
                    stacked--;
                    stack[stacked - 1] = stack[stacked - 1] || stack[stacked];
                } else if (stacked < MOST_STACKED) {
                    stack[stacked] = orderHolds(order, rules.place[k], rules.number[k], s);
                    stacked++;
                }
            }
            return stacked == 1 && stack[0];
        }

        private boolean orderHolds(int order, int cell, int number, State s) {
            int next = s.hour + 1;
            if (order == Rules.SEES) {
                return river.eye[cell] && s.jam[cell] > 0;
            }
            if (order == Rules.HOUR_IS) {
                return next >= number;
            }
            if (order == Rules.WARMTH_IS) {
                return s.warmth >= number;
            }
            int newest = s.book.newestKnown(s.hour, cell, next);
            if (newest == 0) {
                return false;
            }
            int level = s.book.levelTold(newest, cell);
            if (order == Rules.READS) {
                return level >= 10 * number;
            }
            int older = s.book.newestKnown(newest - 1, cell, next);
            return older > 0 && level - s.book.levelTold(older, cell) >= number;
        }

        private void doActs(State s) {
            int many = Math.min(river.crews, s.waiting.size);
            for (int k = 0; k < many; k++) {
                doAct(s, s.waiting.kind[k], s.waiting.cell[k]);
            }
            s.waiting.dropFirst(many);
            s.done += many;
        }

        private void doAct(State s, int kind, int i) {
            switch (kind) {
                case CUT:
                    if (s.sheet[i] >= 15) {
                        breakSheet(s, i);
                    }
                    break;
                case CLEAR:
                    s.floes[i] += s.jam[i];
                    s.jam[i] = 0;
                    break;
                case BAG:
                    s.bags[i] = Math.min(100, s.bags[i] + 10);
                    break;
                case SHUT:
                case OPEN:
                    // The CELL may have been told anew, as no GATE, while the ACT waited.
                    s.shut[i] = kind == SHUT && river.kind[i] == GATE ? 1 : 0;
                    break;
                case MOVE:
                    s.people[i] = Math.max(0, s.people[i] - 50);
                    break;
                default:
                    int let = Math.min(s.room[i], s.water[i]);
                    s.room[i] -= let;
                    s.water[i] -= let;
                    break;
            }
        }

        private static void breakSheet(State s, int i) {
            s.floes[i] += s.sheet[i];
            s.sheet[i] = 0;
        }

        private void takeLevels(State s) {
            for (int i = 0; i < river.cells; i++) {
                level[i] = river.levelOf(i, s.water[i]);
            }
            level[river.cells] = river.sea;
        }

        private void letFlow(State s) {
            takeLevels(s);
            for (int i = 0; i < river.cells; i++) {
                s.flow[i] = flowOf(s, i);
            }
            for (int i = 0; i < river.cells; i++) {
                s.water[i] -= s.flow[i];
                if (i + 1 < river.cells) {
                    s.water[i + 1] += s.flow[i];
                }
            }
        }

        private int flowOf(State s, int i) {
            int fall = level[i] - level[i + 1];
            if (fall <= 0 || s.shut[i] == 1) {
                return 0;
            }
            int brake = 10 + s.jam[i] + (s.sheet[i] > 0 ? 20 : 0);
            return Math.min(s.water[i], fall * river.pass[i] / brake);
        }

        private void freeze(State s, int cold) {
            for (int i = 0; i < river.cells; i++) {
                int before = s.sheet[i];
                if (s.floes[i] == 0 && s.jam[i] == 0) {
                    s.sheet[i] = Math.min(THICKEST, before + cold / (5 + before / 10));
                }
                if (before == 0) {
                    s.frozen[i] = level[i];
                }
            }
        }

        private void melt(State s, int much) {
            for (int i = 0; i < river.cells; i++) {
                s.sheet[i] = Math.max(0, s.sheet[i] - much);
            }
        }

        private void breakSheets(State s) {
            for (int i = 0; i < river.cells; i++) {
                if (s.sheet[i] > 0 && river.kind[i] != LAKE
                        && level[i] >= s.frozen[i] + 10 + s.sheet[i]) {
                    breakSheet(s, i);
                }
            }
        }

        /** From below to above, so that no FLOES go through two CELLS in one HOUR. */
        private void drift(State s) {
            for (int i = river.cells - 1; i >= 0; i--) {
                if (river.kind[i] != LAKE) {
                    int moving = Math.min(s.floes[i], s.flow[i] / 5);
                    int passing = Math.min(moving, mostPassing(s, i));
                    s.floes[i] -= moving;
                    s.jam[i] += moving - passing;
                    giveBelow(s, i, passing);
                }
            }
        }

        private int mostPassing(State s, int i) {
            boolean covered = i + 1 < river.cells && s.sheet[i + 1] > 0;
            return covered || s.shut[i] == 1 ? 0 : MOST_FLOES[river.kind[i]];
        }

        private void giveBelow(State s, int i, int ice) {
            if (i + 1 < river.cells) {
                s.floes[i + 1] += ice;
            }
        }

        private void letJamsGo(State s, int hold) {
            for (int i = 0; i < river.cells; i++) {
                if (s.jam[i] > 0 && level[i] - level[i + 1] > hold + 2 * s.jam[i]) {
                    giveBelow(s, i, s.jam[i]);
                    s.jam[i] = 0;
                }
            }
        }

        private void countHarm(State s) {
            for (int i = 0; i < river.cells; i++) {
                if (level[i] > river.bank[i] + s.bags[i]) {
                    s.harm += s.people[i];
                }
            }
        }

        private void noteCrests(State s) {
            for (int i = 0; i < river.cells; i++) {
                if (level[i] > s.crest[i]) {
                    s.crest[i] = level[i];
                    s.crestHour[i] = s.hour;
                }
            }
        }

        private void readGauges(State s) {
            for (int i = 0; i < river.cells; i++) {
                boolean read = river.lag[i] != NONE && s.sheet[i] < 30;
                s.book.write(s.hour, i, level[i], read ? s.hour + Math.max(1, river.lag[i]) : 0);
            }
        }
    }

    private static final class Marks {
        final int[] cell = new int[MOST_MARKS];
        final int[] low = new int[MOST_MARKS];
        final int[] high = new int[MOST_MARKS];
        int size;

        void add(int itsCell, int itsLow, int itsHigh) {
            cell[size] = itsCell;
            low[size] = itsLow;
            high[size] = itsHigh;
            size++;
        }

        boolean areMetBy(int[] crest) {
            for (int k = 0; k < size; k++) {
                if (!isWithin(crest[cell[k]], low[k], high[k])) {
                    return false;
                }
            }
            return true;
        }
    }

    private static final class Tape {
        int sort;
        int length;
        /** How many tellings there were when the STATE was kept. */
        int tellings;
        /** Every sort of row lies in longs, narrowed when it is put. */
        final long[] row = new long[LONGEST_ROW];
        final State state = new State(new Book(LAST_HOUR));

        boolean isRow() {
            return sort >= BYTES && sort <= LONGS;
        }

        boolean hasPlace(int i) {
            return i >= 0 && i < length;
        }

        boolean hasSpan(int first, int n) {
            return first >= 0 && n >= 0 && first <= length - n;
        }

        boolean isAllWithin(int n, int least, int most) {
            for (int k = 0; k < n; k++) {
                if (row[k] < least || row[k] > most) {
                    return false;
                }
            }
            return true;
        }

        void becomeRow(int itsSort, int n) {
            sort = itsSort;
            length = n;
            for (int k = 0; k < n; k++) {
                row[k] = 0;
            }
        }

        long narrowed(long v) {
            switch (sort) {
                case BYTES: return (byte) v;
                case SHORTS: return (short) v;
                case INTS: return (int) v;
                default: return v;
            }
        }
    }
}
