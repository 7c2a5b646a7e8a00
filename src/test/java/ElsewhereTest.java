/**
 * What is promised of a CELL, a RULE, a WEATHER or an ORDER is promised of each, not of the first
 * alone: the same asked of all of them, one after another.
 */
final class ElsewhereTest {
    private static final Due DUE = new Due("ElsewhereTest");
    private static final int R = 5;

    public static void main(String[] args) {
        beginForgetsAll();
        int[] hours = {1, 2, 12};
        for (int n : hours) {
            againForgetsAll(n);
        }
        gatesEverywhere();
        floesBesideShutGates();
        jamsEverywhere();
        actsEverywhere();
        jamsLetGoEverywhere();
        ordersOfOtherCells();
        faultsOfOtherOrders();
        rulesOfOtherCells();
        readingsBehindBack();
        statesWithoutHarm();
        takenByStates();
        takenInTheFirstTrial();
        DUE.end();
    }

    private static void is(String call, long got, long want) {
        DUE.is(call, got, want);
    }

    private static void beginForgetsAll() {
        IceOut x = new IceOut();
        for (int i = 0; i < 4; i++) {
            x.gauge(i, i);
            x.eye(i);
        }
        for (int w = 0; w < 4; w++) {
            Due.weather(x, w, new int[] {9999, 9999}, new int[] {-30, -30});
        }
        x.begin(4);
        // A TEMPERATURE below 0 moves the 100 PEOPLE that are always WET; an INFLOW wets the 1.
        x.cell(0, 4, 300, 1, 1);
        x.town(0, 1, 300, 0);
        x.town(1, 100, 0, 0);
        Due.rule(x, 5, 1, 5, 0, 8, 0);
        for (int w = 0; w < 4; w++) {
            is("2: WEATHER " + w + " as at first", x.trial(0, w, 5), 500);
        }
        for (int i = 0; i < 4; i++) {
            is("2: no GAUGE in CELL " + i, x.gauge(i, -1), 0);
            is("2: no EYE in CELL " + i, x.eye(i), 1);
        }
    }

    /** All CELLS flow, freeze, let ice go and are told otherwise; behind again() all is as it was. */
    private static void againForgetsAll(int hours) {
        IceOut x = new IceOut();
        x.begin(R);
        x.crews(6);
        for (int i = 0; i < R; i++) {
            x.cell(i, i == R - 1 ? 4 : 3, 1000 - 200 * i, 1, 100);
            x.fill(i, 100 + i, 20 + i);
            x.town(i, 300 + i, 4000, 50 + i);
        }
        for (int r = 0; r < 12; r++) {
            Due.rule(x, 2, r % R, 4, 1, 0);
        }
        int[][] before = look(x);
        for (int kind = 0; kind <= 6; kind++) {
            for (int i = 0; i < R - 1; i++) {
                x.act(kind, i);
            }
        }
        x.run(hours);
        for (int r = 0; r < 12; r++) {
            is("15: RULE " + r + " came", x.came(r), 1);
        }
        x.again();
        int[][] behind = look(x);
        for (int i = 0; i < R; i++) {
            for (int what = 0; what <= 10; what++) {
                is("15: again behind " + hours + ", now(" + i + ", " + what + ")", behind[i][what], before[i][what]);
            }
        }
        for (int r = 0; r < 12; r++) {
            is("15: RULE " + r + " has not come", x.came(r), -2);
            is("15: RULE " + r + " holds", x.holds(r), 1);
        }
    }

    private static int[][] look(IceOut x) {
        int[][] all = new int[R][11];
        for (int i = 0; i < R; i++) {
            for (int what = 0; what <= 10; what++) {
                all[i][what] = x.now(i, what);
            }
        }
        return all;
    }

    /** Of five GATES, each sending its 10 WATER down, one is shut. */
    private static void gatesEverywhere() {
        for (int shut = 0; shut < R; shut++) {
            IceOut x = new IceOut();
            x.begin(R);
            for (int i = 0; i < R; i++) {
                x.cell(i, 3, 1000 - 100 * i, 10, 20);
                x.fill(i, 10, 0);
            }
            x.act(3, shut);
            x.run(1);
            for (int i = 0; i < R; i++) {
                is("III: GATE " + i + ", shut is " + shut, x.now(i, 8), i == shut ? 1 : 0);
                is("II b: FLOW of GATE " + i + ", shut is " + shut, x.now(i, 10), i == shut ? 0 : 10);
            }
            x.act(4, shut);
            x.run(1);
            is("III: GATE " + shut + " open", x.now(shut, 8), 0);
            is("II b: GATE " + shut + " lets all go", x.now(shut, 10), shut == 0 ? 10 : 20);
        }
    }

    /** A GATE that is shut holds its own FLOES alone: 19 of a REACH's 50 pass, wherever it lies. */
    private static void floesBesideShutGates() {
        for (int at = 0; at < R; at++) {
            for (int shut = 0; shut < R; shut++) {
                if (shut != at) {
                    IceOut x = lakes();
                    x.cell(shut, 3, 1000, 1, 1);
                    x.act(3, shut);
                    letIceGo(x, at);
                    is("II e: JAM of CELL " + at + " beside GATE " + shut, x.now(at, 4), 0);
                    is("II e: FLOES of CELL " + at + " beside GATE " + shut, x.now(at, 3), 31);
                    is("II e: in all, beside GATE " + shut, x.count(8), at == R - 1 ? 31 : 50);
                }
            }
        }
    }

    /** LAKES at 1000; a REACH over a SHEET below it sends 99 WATER, and 19 of its 50 FLOES jam. */
    private static void jamsEverywhere() {
        for (int at = 0; at < R - 1; at++) {
            IceOut x = jammed(at);
            for (int i = 0; i < R; i++) {
                is("II e: JAM of CELL " + i + " by a SHEET below " + at, x.now(i, 4), i == at ? 19 : 0);
                is("II e: FLOES of CELL " + i, x.now(i, 3), i == at ? 31 : 0);
            }
            // In every CELL but that one CLEAR does nothing.
            x.crews(R - 1);
            for (int i = 0; i < R; i++) {
                if (i != at) {
                    x.act(1, i);
                }
            }
            x.run(1);
            is("III: CLEAR elsewhere", x.now(at, 4), 19);
            is("III: CLEAR elsewhere", x.count(8), 50);
            x.act(1, at);
            x.run(1);
            for (int i = 0; i < R; i++) {
                is("III: CLEAR in " + at + ", JAM of CELL " + i, x.now(i, 4), 0);
                is("III: CLEAR in " + at + ", FLOES of CELL " + i, x.now(i, 3), i == at ? 50 : 0);
            }
        }
    }

    private static IceOut jammed(int at) {
        IceOut x = lakes();
        x.fill(at + 1, 0, 1);
        letIceGo(x, at);
        return x;
    }

    private static IceOut lakes() {
        IceOut x = new IceOut();
        x.begin(R);
        x.sea(1000);
        for (int i = 0; i < R; i++) {
            x.cell(i, 4, 1000, 1, 1);
        }
        return x;
    }

    private static void letIceGo(IceOut x, int at) {
        x.cell(at, 0, 1100, 1, 100);
        x.fill(at, 99, 50);
        x.act(0, at);
        x.run(1);
    }

    /** Each ACT in each CELL changes that one alone. */
    private static void actsEverywhere() {
        int[] what = {2, 4, 5, 8, 8, 6, 7};
        int[] from = {60, 0, 0, 0, 0, 70, 50};
        int[] to = {0, 0, 10, 1, 0, 20, 10};
        for (int kind = 0; kind <= 6; kind++) {
            for (int at = 0; at < R; at++) {
                IceOut x = new IceOut();
                x.begin(R);
                x.sea(1040);
                for (int i = 0; i < R; i++) {
                    x.cell(i, 3, 1000, 1, 100);
                    x.fill(i, 40, 60);
                    x.town(i, 70, 4000, 50);
                }
                is("13: ACT " + kind + " in CELL " + at, x.act(kind, at), 1);
                x.run(1);
                for (int i = 0; i < R; i++) {
                    is("III: ACT " + kind + " in " + at + ", CELL " + i, x.now(i, what[kind]),
                            i == at ? to[kind] : from[kind]);
                }
            }
        }
    }

    /**
     * A BRIDGE sends all its 150 WATER into the LAKE below: 20 of 30 FLOES pass, and the 10 that
     * jam are held by a FALL of 50 and no more.
     */
    private static void jamsLetGoEverywhere() {
        for (int at = 0; at < R; at++) {
            for (int fall = 50; fall <= 51; fall++) {
                IceOut x = new IceOut();
                x.begin(R);
                x.sea(1000);
                for (int i = 0; i < R; i++) {
                    x.cell(i, 4, i > at ? 1000 : 1900, 100, 1);
                }
                // Of 100 AREA: the 150 WATER lift the LAKE below by 1.
                x.cell(at, 2, 1000 + fall + (at == R - 1 ? 0 : 1), 1, 100);
                x.fill(at, 150, 30);
                x.act(0, at);
                x.run(1);
                is("II f: JAM of CELL " + at + " by a FALL of " + fall, x.now(at, 4), fall == 50 ? 10 : 0);
                if (at < R - 1) {
                    is("II f: FLOES of the next of " + at, x.now(at + 1, 3), fall == 50 ? 20 : 30);
                }
            }
        }
    }

    private static void holds(String what, IceOut x, int want, long... words) {
        x.ruleless();
        // RULE 0 begins with an ORDER that has no number, so that none can be lent from it.
        Due.rule(x, 2, 0, 3, 0, 0);
        is("20: " + what, x.holds(Due.rule(x, 2, 0, words)), want);
    }

    /** CELL i reads 1000 - 200 i, CELL 4 sees a JAM when it has an EYE. */
    private static void ordersOfOtherCells() {
        IceOut x = new IceOut();
        x.begin(R);
        for (int i = 0; i < R; i++) {
            x.cell(i, 4, 1000 - 200 * i, 1, 1);
            x.gauge(i, 0);
        }
        x.run(2);
        for (int i = 0; i < R; i++) {
            int tens = 100 - 20 * i;
            holds("reads CELL " + i, x, 1, 1, i, tens, 0);
            holds("reads CELL " + i, x, 0, 1, i, tens + 1, 0);
            holds("reads CELL " + i + " behind the HOUR", x, 1, 4, 3, 1, i, tens, 6, 0);
            holds("reads CELL " + i + " behind the HOUR", x, 0, 4, 3, 1, i, tens + 1, 6, 0);
            holds("reads CELL " + i + " ahead of the HOUR", x, 0, 1, i, tens, 4, 4, 6, 0);
            holds("reads CELL " + i + " behind CELL 0", x, 1, 1, 0, 100, 1, i, tens, 6, 0);
            holds("reads CELL " + i + " behind CELL 0", x, 0, 1, 0, 100, 1, i, tens + 1, 6, 0);
            x.mend(i, 2, 1000 - 200 * i + 7);
        }
        x.run(1);
        for (int i = 0; i < R; i++) {
            x.mend(i, 3, 1000 - 200 * i + 7 + 10 * i);
        }
        x.run(1);
        for (int i = 0; i < R; i++) {
            x.mend(i, 4, 1000 - 200 * i + 7 + 10 * i + i);
            holds("rises in CELL " + i, x, 0, 5, 0, 2, i, i + 1, 6, 0);
            x.ruleless();
            is("20: rises in CELL " + i, x.holds(Due.rule(x, 2, 0, 5, 0, 2, i, i, 6, 0)), 1);
        }
        IceOut y = jammed(3);
        for (int i = 0; i < R; i++) {
            y.eye(i);
            y.ruleless();
            is("20: an EYE in CELL " + i, y.holds(Due.rule(y, 2, 0, 4, 1, 3, i, 6, 0)), i == 3 ? 1 : 0);
        }
    }

    /** A fault of an ORDER that is not the first, with a sound number where the first has its own. */
    private static void faultsOfOtherOrders() {
        IceOut x = new IceOut();
        is("11: CELL -1 in the second", Due.rule(x, 2, 0, 4, 3, 1, -1, 5, 6, 0), -102);
        is("11: CELL 4 in the second", Due.rule(x, 2, 0, 4, 3, 1, 4, 5, 6, 0), -102);
        is("11: CELL -1 in the third", Due.rule(x, 2, 0, 3, 1, 8, 3, -1, 6, 0), -103);
        is("11: a number below 0 in the second", Due.rule(x, 2, 0, 3, 1, 2, 1, -1, 6, 0), -102);
        is("11: a number below 0 in the second", Due.rule(x, 2, 0, 5, -1, 4, -1, 6, 0), -102);
        is("11: a TEMPERATURE below 0 in the second", Due.rule(x, 2, 0, 4, 1, 5, -1, 6, 0), 0);
    }

    /** Twelve RULES, each with an ACT of its own. */
    private static void rulesOfOtherCells() {
        IceOut x = new IceOut();
        x.begin(12);
        for (int r = 0; r < 12; r++) {
            x.town(11 - r, 70, 4000, 0);
            is("11: RULE", Due.rule(x, r % 2 == 0 ? 2 : 5, 11 - r, 4, 1 + r, 0), r);
        }
        for (int hour = 1; hour <= 12; hour++) {
            x.run(1);
            for (int r = 0; r < 12; r++) {
                boolean done = r < hour;
                is("21: RULE " + r + " by HOUR " + hour, x.came(r), done ? r + 1 : -2);
                is("III: its BAG", x.now(11 - r, 5), done && r % 2 == 0 ? 10 : 0);
                is("III: its MOVE", x.now(11 - r, 6), done && r % 2 == 1 ? 20 : 70);
            }
        }
    }

    /** A reading stays the newest KNOWN through HOURS that have none, also by way of a STATE. */
    private static void readingsBehindBack() {
        for (int i = 0; i < 4; i++) {
            IceOut x = new IceOut();
            x.gauge(i, 0);
            x.run(1);
            x.gauge(i, -1);
            x.run(2);
            x.keep(0);
            x.again();
            x.run(3);
            is("32: back", x.back(0), 3);
            is("32: the reading of HOUR 1", x.reading(i, 1, 2), 300 - 100 * i);
            is("32: it is the newest KNOWN", x.holds(Due.rule(x, 2, 0, 1, i, 30 - 10 * i, 0)), 1);
            is("32: and no more", x.holds(Due.rule(x, 2, 0, 1, i, 31 - 10 * i, 0)), 0);
            is("32: none is older", x.holds(Due.rule(x, 2, 0, 2, i, 0, 0)), 0);
        }
    }

    private static void statesWithoutHarm() {
        IceOut x = new IceOut();
        x.town(0, 9, 300, 0);
        x.run(5);
        x.keep(0);
        is("33: HOURS without HARM", x.toss(0), IceOut.THROWN);
        is("33: counted", x.count(9), 1);
    }

    /** The HOURS of ACTS TAKEN are the STATE's, whatever was TAKEN behind it. */
    private static void takenByStates() {
        IceOut x = new IceOut();
        x.plan(3, 2, 0);
        x.plan(5, 2, 1);
        x.plan(9, 2, 2);
        x.taken(3);
        x.keep(0);
        x.again();
        x.taken(4);
        x.keep(1);
        is("32: back", x.back(0), 0);
        int[] hours = {0, 0, 10, 10, 20, 20, 20, 20, 20};
        for (int h = 1; h <= hours.length; h++) {
            x.run(1);
            is("27: BAGS by HOUR " + h, x.now(0, 5) + x.now(1, 5) + x.now(2, 5), hours[h - 1]);
        }
        is("32: back", x.back(1), 0);
        x.run(8);
        is("27: none of the other STATE's", x.count(4), 0);
        x.run(1);
        is("27: at HOUR 9", x.now(2, 5), 10);
    }

    private static void takenInTheFirstTrial() {
        IceOut x = new IceOut();
        x.town(0, 50, 0, 0);
        x.plan(2, 5, 0);
        x.taken(1);
        is("24: the ACT TAKEN comes at HOUR 2 of the first TRIAL", x.trial(0, 0, 4), 50);
        IceOut y = new IceOut();
        y.town(0, 50, 0, 0);
        y.plan(2, 5, 0);
        is("24: the PLAN's too", y.trial(1, 0, 4), 50);
    }
}
