import java.util.Arrays;

/**
 * The arguments of each method: every value in its range, those just outside
 * and far outside, and which error stands first where several apply.
 */
public final class RangesTest extends Answers {
    /** What an argument may be, and what is answered if it is not. */
    private record Range(int low, int high, int error) {
        boolean holds(int value) {
            return value >= low && value <= high;
        }

        /** The ends, beside them, far away, and what is inside once it is cut to fewer bits. */
        int[] samples() {
            return new int[] {low, high, (low + high) / 2, low - 1, high + 1, low - 2, high + 2, -high - 1,
                Integer.MIN_VALUE, Integer.MAX_VALUE, low + 256, high - 256, high + 65536, low - 65536};
        }
    }

    private interface Method {
        int on(CousinShares x, int[] arguments);
    }

    private static final Range PLOT = new Range(0, 23, UNKNOWN);
    private static final Range CROP = new Range(0, 3, UNKNOWN);
    private static final Range COUSIN = new Range(0, 6, UNKNOWN);
    private static final Range OWNER = new Range(0, 7, UNKNOWN);
    private static final Range DIGIT = new Range(0, 9, OUT_OF_RANGE);
    private static final Range PARTY = new Range(1, 127, OUT_OF_RANGE);

    private static Range what(int high) {
        return new Range(0, high, OUT_OF_RANGE);
    }

    /** The error that stands first in the @return line, or 0 if none applies. */
    private static int errorOf(Range[] ranges, int[] values, boolean pair) {
        for (int error : new int[] {UNKNOWN, OUT_OF_RANGE}) {
            for (int i = 0; i < ranges.length; i++) {
                if (ranges[i].error() == error && !ranges[i].holds(values[i])) {
                    return error;
                }
            }
        }
        return pair && values[0] == values[1] ? OUT_OF_RANGE : 0;
    }

    private static void check(String name, Method method, Range... ranges) {
        checkFrom(name, method, false, ranges, new int[ranges.length], 0);
    }

    private static void checkPair(String name, Method method, Range... ranges) {
        checkFrom(name, method, true, ranges, new int[ranges.length], 0);
    }

    /** Goes through all samples of the arguments from the index on, each beside each. */
    private static void checkFrom(String name, Method method, boolean pair, Range[] ranges, int[] values, int index) {
        if (index == ranges.length) {
            checkCall(name, method, errorOf(ranges, values, pair), values);
            return;
        }
        for (int value : ranges[index].samples()) {
            values[index] = value;
            checkFrom(name, method, pair, ranges, values, index + 1);
        }
    }

    private static void checkCall(String name, Method method, int error, int[] values) {
        int got = method.on(new CousinShares(), values);
        if (error != 0) {
            due(name + Arrays.toString(values), got, error);
        } else {
            boolean isError = got == UNKNOWN || got == OUT_OF_RANGE || got == FULL;
            due(name + Arrays.toString(values) + " is an error", isError ? got : 0, 0);
        }
    }

    private static void checkArguments() {
        check("plant", (x, a) -> x.plant(a[0], a[1], a[2]), PLOT, CROP, DIGIT);
        check("weigh", (x, a) -> x.weigh(a[0], a[1], a[2]), COUSIN, CROP, DIGIT);
        checkPair("grudge", (x, a) -> x.grudge(a[0], a[1], a[2]), COUSIN, COUSIN, DIGIT);
        check("set a setting", (x, a) -> x.set(a[0], 1), new Range(0, 1, UNKNOWN));
        check("set ORDER", (x, a) -> x.set(0, a[0]), new Range(0, 1, OUT_OF_RANGE));
        check("set SPITE", (x, a) -> x.set(1, a[0]), new Range(1, 10, OUT_OF_RANGE));
        check("divide", (x, a) -> x.divide(a[0]), PARTY);
        check("give", (x, a) -> x.give(a[0], a[1]), PLOT, OWNER);
        checkPair("trade", (x, a) -> x.trade(a[0], a[1]), COUSIN, COUSIN);
        check("plot", (x, a) -> x.plot(a[0], a[1]), PLOT, what(11));
        check("cousin", (x, a) -> x.cousin(a[0], a[1]), COUSIN, what(12));
        checkPair("pair", (x, a) -> x.pair(a[0], a[1], a[2]), COUSIN, COUSIN, what(4));
        check("total", (x, a) -> x.total(a[0]), what(10));
        check("ifDivided", (x, a) -> x.ifDivided(a[0], a[1]), PARTY, what(4));
        check("bestTrade", (x, a) -> x.bestTrade(a[0]), what(1));
        check("bestWithout", (x, a) -> x.bestWithout(a[0]), what(1));
    }

    /** Where the same call would also be NONE, UNKNOWN or refused. */
    private static void checkOrderOfErrors() {
        CousinShares x = new CousinShares();
        due("an unknown setting, ORDER's value", x.set(2, 0), UNKNOWN);
        due("an unknown setting, no value", x.set(2, 99), UNKNOWN);
        due("an unknown setting, no value", x.set(-1, -1), UNKNOWN);
        due("SPITE's value for ORDER", x.set(0, 5), OUT_OF_RANGE);
        due("ORDER's value for SPITE", x.set(1, 0), OUT_OF_RANGE);
        due("an amount that an unknown plot may have", x.plant(24, 0, 0), UNKNOWN);
        due("an amount as before of an unknown crop", x.plant(0, 4, 0), UNKNOWN);
        due("a weight as before of an unknown cousin", x.weigh(7, 0, 1), UNKNOWN);
        due("a weight as before of an unknown crop", x.weigh(0, 4, 1), UNKNOWN);
        due("no grudge against oneself", x.grudge(3, 3, 0), OUT_OF_RANGE);
        due("both the same, and no grudge", x.grudge(3, 3, 10), OUT_OF_RANGE);
        due("both the same and unknown, and no grudge", x.grudge(7, 7, 10), UNKNOWN);
        due("an unknown plot that would belong to nobody", x.give(24, 7), UNKNOWN);
        due("an unknown plot for an unknown cousin", x.give(24, 8), UNKNOWN);
        due("trade with oneself would be refused too", x.trade(0, 0), OUT_OF_RANGE);
        due("both the same and unknown", x.trade(7, 7), UNKNOWN);
        due("both the same and unknown", x.trade(-1, -1), UNKNOWN);
        due("a pair of the same unknown", x.pair(7, 7, 5), UNKNOWN);
        due("a pair of the same", x.pair(6, 6, 5), OUT_OF_RANGE);
        due("an unknown plot, no what", x.plot(24, 12), UNKNOWN);
        due("an unknown cousin, no what", x.cousin(7, 13), UNKNOWN);
        due("no cousins, no what", x.ifDivided(0, 5), OUT_OF_RANGE);
        due("nobody would trade, no what", x.bestTrade(2), OUT_OF_RANGE);
        due("nobody would trade, no what", x.bestTrade(-1), OUT_OF_RANGE);
        due("nothing of it was a change", x.undo(), NONE);
    }

    private static void checkPlant() {
        for (int plot = 0; plot < 24; plot++) {
            for (int crop = 0; crop < 4; crop++) {
                int first = plot % 4 == crop ? 1 : 0;
                for (int amount = 0; amount <= 9; amount++) {
                    CousinShares x = new CousinShares();
                    String call = "plant(" + plot + ", " + crop + ", " + amount + ")";
                    due(call, x.plant(plot, crop, amount), amount == first ? NONE : first);
                    due(call + ", the amount", x.plot(plot, crop), amount);
                    due(call + ", the worth", x.plot(plot, 5), amount + (first == 0 ? 1 : 0));
                    due(call + " again", x.plant(plot, crop, amount), NONE);
                    due(call + ", the states", x.total(9), amount == first ? 0 : 1);
                }
            }
        }
    }

    private static void checkWeigh() {
        for (int cousin = 0; cousin < 7; cousin++) {
            for (int crop = 0; crop < 4; crop++) {
                for (int weight = 0; weight <= 9; weight++) {
                    CousinShares x = new CousinShares();
                    String call = "weigh(" + cousin + ", " + crop + ", " + weight + ")";
                    due(call, x.weigh(cousin, crop, weight), weight == 1 ? NONE : 1);
                    due(call + ", the weight", x.cousin(cousin, crop), weight);
                    due(call + ", a plot of the crop", x.plot(20 + crop, 5 + cousin), weight);
                    due(call + ", a plot of another crop", x.plot(20 + (crop + 1) % 4, 5 + cousin), 1);
                    due(call + ", all plots", x.cousin(cousin, 6), 18 + 6 * weight);
                    due(call + ", another cousin", x.cousin((cousin + 1) % 7, 6), 24);
                    due(call + " again", x.weigh(cousin, crop, weight), NONE);
                }
            }
        }
    }

    private static void checkGrudge() {
        for (int cousin = 0; cousin < 7; cousin++) {
            for (int other = 0; other < 7; other++) {
                for (int grudge = 0; grudge <= 9 && other != cousin; grudge++) {
                    CousinShares x = new CousinShares();
                    String call = "grudge(" + cousin + ", " + other + ", " + grudge + ")";
                    due(call, x.grudge(cousin, other, grudge), grudge == 0 ? NONE : 0);
                    due(call + ", the grudge", x.pair(cousin, other, 0), grudge);
                    due(call + ", the other way round", x.pair(other, cousin, 0), 0);
                    due(call + ", the sum", x.cousin(cousin, 8), grudge);
                    due(call + ", the other's sum", x.cousin(other, 8), 0);
                    due(call + " again", x.grudge(cousin, other, grudge), NONE);
                }
            }
        }
    }

    private static void checkSet() {
        for (int value = 1; value <= 10; value++) {
            CousinShares x = new CousinShares();
            due("set SPITE " + value, x.set(1, value), value == 5 ? NONE : 5);
            due("SPITE " + value, x.total(1), value);
            due("ORDER beside SPITE " + value, x.total(0), 0);
            due("set SPITE again", x.set(1, value), NONE);
            due("set SPITE on", x.set(1, value % 10 + 1), value);
        }
        CousinShares x = new CousinShares();
        due("ORDER as at first", x.set(0, 0), NONE);
        due("ORDER 1", x.set(0, 1), 0);
        due("ORDER", x.total(0), 1);
        due("SPITE beside ORDER", x.total(1), 5);
        due("ORDER 1 again", x.set(0, 1), NONE);
        due("ORDER 0", x.set(0, 0), 1);
        due("two changes", x.total(9), 2);
    }

    private static void checkGive() {
        for (int plot = 0; plot < 24; plot++) {
            for (int cousin = 0; cousin <= 7; cousin++) {
                CousinShares x = new CousinShares();
                String call = "give(" + plot + ", " + cousin + ")";
                due(call, x.give(plot, cousin), cousin == 7 ? NONE : 7);
                due(call + ", the cousin", x.plot(plot, 4), cousin);
                due(call + ", the plot beside it", x.plot((plot + 1) % 24, 4), 7);
                due(call + ", nobody's plots", x.total(2), cousin == 7 ? 24 : 23);
                due(call + ", the states", x.total(9), cousin == 7 ? 0 : 1);
                due(call + " again", x.give(plot, cousin), NONE);
                due(call + ", then on", x.give(plot, (cousin + 1) % 8), cousin);
            }
        }
    }

    public static void main(String[] args) {
        checkArguments();
        checkOrderOfErrors();
        checkPlant();
        checkWeigh();
        checkGrudge();
        checkSet();
        checkGive();
        finish();
    }
}
