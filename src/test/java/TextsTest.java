/**
 * The part 'TEXTS' of the document and what type, clearText and perform say of
 * it: for each place of each order the characters that are allowed there, and
 * each other character as a fault; the full text; and what the orders do.
 */
public final class TextsTest extends Answers {
    private static final String DIGITS = "0123456789";
    private static final String COUSINS = "0123456";
    private static final String ORDERS = "pwgd";
    private static final int ALL_SMALL = 0x180;
    /* Signs that are taken for digits, letters or others where bits are cut off, and those in other scripts. */
    private static final char[] STRANGE = {0x0660, 0x06F3, 0x0966, 0xFF10, 0xFF1D, 0xFF50, 0x2030, 0x203D, 0x0370, 0x0430,
        0x1030, 0x103B, 0x7F30, 0x8030, 0xFF30, 0xFFFF, 0xD835, 0xDFCE, 0x3007, 0x2460};

    /** The text so far, and which characters are allowed behind it; where ";" is, it may end too. */
    private static void place(String ahead, String allowed) {
        for (char sign = 0; sign < ALL_SMALL; sign++) {
            placeOf(ahead, allowed, sign);
        }
        for (char sign : STRANGE) {
            placeOf(ahead, allowed, sign);
        }
        boolean whole = allowed.indexOf(';') >= 0;
        int got = perform(new CousinShares(), ahead);
        if (whole) {
            due("the whole text " + ahead, got, ahead.split(";").length);
        } else {
            due("the text that ends behind " + ahead, got, FAULT - ahead.length());
        }
    }

    private static void placeOf(String ahead, String allowed, char sign) {
        CousinShares x = new CousinShares();
        int got = perform(x, ahead + sign);
        String call = "the sign " + (int) sign + " behind " + ahead;
        if (allowed.indexOf(sign) >= 0) {
            due(call + " is a fault", got > 0 || got == FAULT - ahead.length() - 1 ? 1 : 0, 1);
        } else {
            due(call, got, FAULT - ahead.length());
            due(call + ": a change", x.total(9), 0);
        }
        due(call + ": the length", x.total(10), ahead.length() + 1);
    }

    private static void checkPlotOrders() {
        place("", ORDERS);
        place("p", DIGITS);
        place("p0", "=");
        place("p1", DIGITS + "=");
        place("p2", "0123=");
        for (int plot = 3; plot <= 23; plot++) {
            place("p" + plot, "=");
        }
        for (String plot : new String[] {"0", "9", "10", "19", "20", "23"}) {
            place("p" + plot + "=", DIGITS);
            place("p" + plot + "=9", DIGITS);
            place("p" + plot + "=90", DIGITS);
            place("p" + plot + "=009", DIGITS);
            place("p" + plot + "=0909", ";");
        }
    }

    private static void checkWeightOrders() {
        place("w", COUSINS);
        for (int cousin = 0; cousin < 7; cousin++) {
            place("w" + cousin, "=");
            place("w" + cousin + "=", DIGITS);
            place("w" + cousin + "=0", DIGITS);
            place("w" + cousin + "=98", DIGITS);
            place("w" + cousin + "=987", DIGITS);
            place("w" + cousin + "=9876", ";");
        }
    }

    private static void checkGrudgeOrders() {
        place("g", COUSINS);
        for (int cousin = 0; cousin < 7; cousin++) {
            place("g" + cousin, COUSINS.replace(String.valueOf(cousin), ""));
            for (int other = 0; other < 7; other++) {
                if (other != cousin) {
                    place("g" + cousin + other, "=");
                    place("g" + cousin + other + "=", DIGITS);
                    place("g" + cousin + other + "=9", ";");
                }
            }
        }
    }

    private static void checkDivideOrders() {
        place("d", COUSINS);
        for (int set = 1; set <= 127; set++) {
            String cousins = digitsOf(set);
            int last = cousins.charAt(cousins.length() - 1) - '0';
            place("d" + cousins, COUSINS.substring(last + 1) + ";");
        }
    }

    private static String digitsOf(int set) {
        StringBuilder digits = new StringBuilder();
        for (int cousin = 0; cousin < 7; cousin++) {
            if ((set >> cousin) % 2 == 1) {
                digits.append(cousin);
            }
        }
        return digits.toString();
    }

    private static void checkLaterOrders() {
        for (String ahead : new String[] {"d6;", "p23=0000;", "g01=2;w0=1111;", "d0;d1;d2;d3;d4;d5;d6;"}) {
            place(ahead, ORDERS);
            place(ahead + "p2", "0123=");
            place(ahead + "p0=000", DIGITS);
            place(ahead + "p0=0000", ";");
            place(ahead + "w", COUSINS);
            place(ahead + "w6=9999", ";");
            place(ahead + "g6", "012345");
            place(ahead + "g65=1", ";");
            place(ahead + "d", COUSINS);
            place(ahead + "d24", "56;");
        }
    }

    private static void dueFault(String text, int fault) {
        CousinShares x = new CousinShares();
        String before = state(x);
        due(text, perform(x, text), FAULT - fault);
        due(text + ", the same again", x.perform(), FAULT - fault);
        dueText(text, state(x), before);
        due(text + ": states", x.total(9), 0);
        due(text + ": the text stays", x.total(10), text.length());
    }

    private static void checkFirstFault() {
        dueFault("", 0);
        dueFault(";", 0);
        dueFault("xyz", 0);
        dueFault("p24=x", 2);
        dueFault("p00=1111", 2);
        dueFault("p01=1111", 2);
        dueFault("p30=1111;x", 2);
        dueFault("p123=1111", 3);
        dueFault("p1=1111 ", 7);
        dueFault("p1=11112", 7);
        dueFault("p1=1111w1=1111", 7);
        dueFault("w0=1111;;d0", 8);
        dueFault("w0=1111;d0;", 11);
        dueFault("w0=0000;g11=5", 10);
        dueFault("g01=10", 5);
        dueFault("g0,1=1", 2);
        dueFault("g0=1", 2);
        dueFault("d00", 2);
        dueFault("d10", 2);
        dueFault("d0120", 4);
        dueFault("d0;d65", 5);
        dueFault("d0;D6", 3);
        dueFault("w0=1234;p5=1234;g01=5;d01;d01;x", 30);
        dueFault("w0=1234;p5=1234;g01=5;d01;d01;", 30);
    }

    private static void checkFullText() {
        CousinShares x = new CousinShares();
        String ahead = "d0;".repeat(19) + "d0";
        for (int i = 0; i < 59; i++) {
            due("type", x.type(ahead.charAt(i)), i + 1);
        }
        due("59 characters", x.total(10), 59);
        due("the 60th", x.type('5'), 60);
        due("the 61st", x.type('6'), FULL);
        due("and the same again", x.type('5'), FULL);
        due("and a sign that is no order's", x.type((char) 0xFFFF), FULL);
        due("60 characters", x.total(10), 60);
        due("twenty orders", x.perform(), 20);
        due("the last one among 0 and 5", x.cousin(5, 4), 12);
        due("the last one among 0 and 5", x.cousin(0, 4), 12);
        due("one change", x.total(9), 1);
        due("clear", x.clearText(), 60);
        due("there is room again", x.type('d'), 1);
        due("clear", x.clearText(), 1);
        due("clear what is empty", x.clearText(), 0);
        due("no orders", x.perform(), FAULT);

        dueFault("d0;".repeat(20), 60);
        dueFault("d0;".repeat(19) + "d07", 59);
        dueFault("g01=1;".repeat(9) + "g01=11", 59);
        dueFault("g01=1;".repeat(9) + "p23=12", 60);
        dueFault("d0;".repeat(19) + "g0=", 59);
    }

    private static void checkFullTextOfFaults() {
        CousinShares x = new CousinShares();
        for (int i = 1; i <= 60; i++) {
            due("any character", x.type((char) (i * 1000)), i);
        }
        due("any character more", x.type('d'), FULL);
        due("a text of no orders", x.perform(), FAULT);
        due("no change", x.total(9), 0);
    }

    private static void checkPlanting() {
        for (int plot = 0; plot < 24; plot++) {
            CousinShares x = new CousinShares();
            due("p" + plot, perform(x, "p" + plot + "=2709"), 1);
            int[] amounts = {2, 7, 0, 9};
            for (int crop = 0; crop < 4; crop++) {
                due("p" + plot + ", crop " + crop, x.plot(plot, crop), amounts[crop]);
                int beside = (plot + 1) % 24;
                due("p" + plot + ", the plot beside it", x.plot(beside, crop), beside % 4 == crop ? 1 : 0);
            }
            due("p" + plot + ", the worth", x.plot(plot, 8), 18);
            due("p" + plot + ", all worth", x.cousin(3, 6), 23 + 18);
            due("p" + plot + ", one change", x.undo(), 0);
            due("p" + plot + ", undone", x.plot(plot, 8), 1);
        }
    }

    private static void checkWeighing() {
        for (int cousin = 0; cousin < 7; cousin++) {
            CousinShares x = new CousinShares();
            due("w" + cousin, perform(x, "w" + cousin + "=2709"), 1);
            int[] weights = {2, 7, 0, 9};
            for (int crop = 0; crop < 4; crop++) {
                due("w" + cousin + ", crop " + crop, x.cousin(cousin, crop), weights[crop]);
                due("w" + cousin + ", another one", x.cousin((cousin + 1) % 7, crop), 1);
                due("w" + cousin + ", a plot", x.plot(8 + crop, 5 + cousin), weights[crop]);
            }
            due("w" + cousin + ", all worth", x.cousin(cousin, 6), 6 * 18);
            due("w" + cousin + ", one change", x.undo(), 0);
            due("w" + cousin + ", undone", x.cousin(cousin, 6), 24);
        }
    }

    private static void checkGrudging() {
        for (int cousin = 0; cousin < 7; cousin++) {
            for (int other = 0; other < 7; other++) {
                if (other != cousin) {
                    CousinShares x = new CousinShares();
                    String text = "g" + cousin + other + "=7";
                    due(text, perform(x, text), 1);
                    due(text + ", the grudge", x.pair(cousin, other, 0), 7);
                    due(text + ", the other way round", x.pair(other, cousin, 0), 0);
                    due(text + ", the sum", x.cousin(cousin, 8), 7);
                }
            }
        }
    }

    private static void checkDividing() {
        for (int set = 1; set <= 127; set++) {
            CousinShares x = new CousinShares();
            CousinShares y = new CousinShares();
            due("d" + digitsOf(set), perform(x, "d" + digitsOf(set)), 1);
            due("divide", y.divide(set), 0);
            dueOwners("d" + digitsOf(set), x, owners(y));
        }
    }

    private static void checkOneAfterTheOther() {
        CousinShares x = new CousinShares();
        due("two of one plot", perform(x, "p5=1234;p5=4321"), 2);
        due("the last one counts", x.plot(5, 0), 4);
        due("weights ahead of dividing", perform(x, "w1=1000;d01"), 2);
        // 1 has half of its 10 with the plot 5, 0 half of its 33 with the plot 7
        due("a trim", x.total(6), 1);
        int trims = x.total(6);
        due("weights behind dividing", perform(x, "w1=1111;d01;w1=1000"), 3);
        due("no trim more", x.total(6), trims);
        due("grudges ahead of dividing", perform(x, "w1=1111;g10=5;d01;g10=0"), 4);
        due("a trim more", x.total(6), trims + 1);
        due("that one out of a grudge", x.total(7), 1);
        due("two trims of one text", perform(x, "g10=5;d01;d01"), 3);
        due("both count", x.total(6), trims + 3);
        due("the grudge ones too", x.total(7), 3);
        due("undone together", x.undo(), 3);
        due("trims", x.total(6), trims + 1);
        due("grudge trims", x.total(7), 1);
    }

    private static void checkNothingDifferent() {
        CousinShares x = new CousinShares();
        due("all as it is", perform(x, "p0=1000;w3=1111;g01=0"), 3);
        due("a change all the same", x.total(9), 1);
        due("the text stays", x.total(10), 21);
        due("again", x.perform(), 3);
        due("again a change", x.total(9), 2);
        due("undo", x.undo(), 1);
        due("undo leaves the text", x.total(10), 21);
        due("clear", x.clearText(), 21);
        due("clear is no change", x.total(9), 1);
    }

    public static void main(String[] args) {
        checkPlotOrders();
        checkWeightOrders();
        checkGrudgeOrders();
        checkDivideOrders();
        checkLaterOrders();
        checkFirstFault();
        checkFullText();
        checkFullTextOfFaults();
        checkPlanting();
        checkWeighing();
        checkGrudging();
        checkDividing();
        checkOneAfterTheOther();
        checkNothingDifferent();
        finish();
    }
}
