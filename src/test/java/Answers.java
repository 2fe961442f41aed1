/** What the tests that compare single answers share. */
class Answers {
    static final int UNKNOWN = -1;
    static final int OUT_OF_RANGE = -2;
    static final int FULL = -3;
    static final int NONE = -5;
    static final int FAULT = -100;
    static final int[] WRONG = {-1, Integer.MIN_VALUE, Integer.MAX_VALUE};
    static final int ALL = 127;

    private static final int MOST_SHOWN = 40;
    private static int wrong = 0;

    /** A call, or several, on an object. */
    interface Call {
        int on(CousinShares x);
    }

    static void due(String call, int got, int want) {
        if (got != want) {
            report(call + " answered " + got + ", due is " + want);
        }
    }

    static void dueText(String call, String got, String want) {
        if (!got.equals(want)) {
            report(call + " left " + got + ", due is " + want);
        }
    }

    static void dueOwners(String call, CousinShares x, String want) {
        dueText(call, owners(x), want);
    }

    private static void report(String fault) {
        wrong++;
        if (wrong <= MOST_SHOWN) {
            System.out.println(fault);
        }
    }

    static void finish() {
        System.out.println(wrong == 0 ? "all answers are as due" : wrong + " answers are not as due");
        if (wrong != 0) {
            System.exit(1);
        }
    }

    static int write(CousinShares x, String text) {
        int length = x.clearText();
        for (int i = 0; i < text.length(); i++) {
            length = x.type(text.charAt(i));
        }
        return length;
    }

    static int perform(CousinShares x, String text) {
        write(x, text);
        return x.perform();
    }

    /** Gives the plots by a row of owners, a digit each; 7 for nobody. */
    static CousinShares owned(String owners) {
        CousinShares x = new CousinShares();
        giveAll(x, owners);
        return x;
    }

    static void giveAll(CousinShares x, String owners) {
        for (int plot = 0; plot < owners.length(); plot++) {
            x.give(plot, owners.charAt(plot) - '0');
        }
    }

    static String owners(CousinShares x) {
        StringBuilder row = new StringBuilder();
        for (int plot = 0; plot < 24; plot++) {
            row.append(x.plot(plot, 4));
        }
        return row.toString();
    }

    /**
     * The row k tells what the first plots are worth to the cousin k; all else
     * is worth nothing to anybody. So each row is a crop that one cousin wants.
     */
    static CousinShares wanted(String... rows) {
        CousinShares x = new CousinShares();
        for (int crop = 0; crop < 4; crop++) {
            for (int plot = 0; plot < 24; plot++) {
                boolean told = crop < rows.length && plot < rows[crop].length();
                x.plant(plot, crop, told ? rows[crop].charAt(plot) - '0' : 0);
            }
            for (int cousin = 0; cousin < 7; cousin++) {
                x.weigh(cousin, crop, cousin == crop ? 1 : 0);
            }
        }
        return x;
    }

    /** A row in which one plot alone is worth something: a fair piece ends with it. */
    static String only(int plot) {
        return "0".repeat(plot) + "1" + "0".repeat(23 - plot);
    }

    /** All that the document calls the state. */
    static String state(CousinShares x) {
        StringBuilder state = new StringBuilder();
        for (int plot = 0; plot < 24; plot++) {
            for (int what = 0; what <= 4; what++) {
                state.append(x.plot(plot, what));
            }
        }
        for (int cousin = 0; cousin < 7; cousin++) {
            state.append(" w");
            for (int crop = 0; crop < 4; crop++) {
                state.append(x.cousin(cousin, crop));
            }
            state.append(" g");
            for (int other = 0; other < 7; other++) {
                state.append(other == cousin ? 0 : x.pair(cousin, other, 0));
            }
        }
        for (int what : new int[] {0, 1, 6, 7, 8}) {
            state.append(' ').append(x.total(what));
        }
        return state.toString();
    }
}
