/** Counts the answers that are not the ones that are due. */
final class Due {
    private final String name;
    private int asked;
    private int wrong;

    Due(String name) {
        this.name = name;
    }

    void is(String call, long got, long want) {
        asked++;
        if (got != want) {
            wrong++;
            if (wrong <= 40) {
                System.out.println(name + ": " + call + " answered " + got + ", due is " + want);
            }
        }
    }

    /** How at() throws: 0 not at all, 1 IllegalArgumentException, 2 IllegalStateException. */
    static int thrownBy(IceOut x, int d, int i) {
        try {
            x.at(d, i);
            return 0;
        } catch (IllegalArgumentException e) {
            return 1;
        } catch (IllegalStateException e) {
            return 2;
        }
    }

    /** A row of a sort on a TAPE. */
    static void row(IceOut x, int d, int sort, long... numbers) {
        x.tape(d, sort, numbers.length);
        for (int i = 0; i < numbers.length; i++) {
            x.put(d, i, numbers[i]);
        }
    }

    /** A WEATHER by way of the TAPES 4 and 5, which it leaves empty. */
    static void weather(IceOut x, int w, int[] inflows, int[] warmths) {
        x.tape(4, 3, inflows.length);
        x.tape(5, 1, warmths.length);
        for (int k = 0; k < inflows.length; k++) {
            x.put(4, k, inflows[k]);
            x.put(5, k, warmths[k]);
        }
        x.weather(w, 4, 5, inflows.length);
        x.clear(4);
        x.clear(5);
    }

    /** A RULE by way of TAPE 5, which it leaves empty. */
    static int rule(IceOut x, int kind, int cell, long... words) {
        row(x, 5, 1, words);
        int number = x.rule(kind, cell, 5);
        x.clear(5);
        return number;
    }

    void end() {
        System.out.println(name + ": " + asked + " answers, " + wrong + " not as due");
        if (wrong > 0 || asked == 0) {
            System.exit(1);
        }
    }
}
