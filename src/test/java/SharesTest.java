/**
 * The parts 'PLOTS, COUSINS' and 'ENVY, TRADES' of the document, sentence by
 * sentence, and what plot, cousin, pair, total, trade, settle and bestTrade say
 * of them. Each number is worked out by hand.
 */
public final class SharesTest extends Answers {
    /** Rows of which each tells what the plots are worth to a cousin, 0 to 3; and to whom they belong. */
    private static CousinShares shared(String owners, String... rows) {
        CousinShares x = wanted(rows);
        giveAll(x, owners);
        return x;
    }

    private static void dueRow(String call, CousinShares x, int cousin, int[] whats, int... want) {
        for (int i = 0; i < whats.length; i++) {
            due(call + ": cousin(" + cousin + ", " + whats[i] + ")", x.cousin(cousin, whats[i]), want[i]);
        }
    }

    private static void checkWorths() {
        CousinShares x = new CousinShares();
        perform(x, "p0=9999;p23=1203;w0=9999;w6=0789;w3=0000");
        due("the greatest worth", x.plot(0, 5), 4 * 81);
        due("a sum of products", x.plot(23, 11), 0 * 1 + 7 * 2 + 8 * 0 + 9 * 3);
        due("weights of 1", x.plot(23, 6), 6);
        due("weights of 0", x.plot(0, 8), 0);
        for (int plot = 0; plot < 24; plot++) {
            x.give(plot, 6);
        }
        // 22 plots of one crop each: five of the crop 0, six each of 1 and 2, five of 3
        due("all plots to 6", x.cousin(6, 6), 9 * 24 + 41 + 6 * 7 + 6 * 8 + 5 * 9);
        due("the share of all plots", x.cousin(6, 5), x.cousin(6, 6));
        due("hundredths of all", x.cousin(6, 7), 100);
        due("hundredths of nothing", x.cousin(3, 7), 0);
        due("the worth of nothing", x.cousin(3, 6), 0);
    }

    private static void checkGreatestNumbers() {
        CousinShares x = new CousinShares();
        for (int plot = 0; plot < 24; plot++) {
            for (int crop = 0; crop < 4; crop++) {
                x.plant(plot, crop, 9);
            }
            x.give(plot, 1);
        }
        perform(x, "w0=9999;w1=9999;g01=9");
        due("the greatest share", x.cousin(1, 5), 24 * 324);
        due("hundredths", x.cousin(1, 7), 100);
        due("what it seems to be", x.pair(0, 1, 2), 24 * 324 * 19 / 10);
        due("the envy", x.cousin(0, 10), 14774);
        due("envies of those of weight 1", x.cousin(6, 9), 24 * 36);
        due("all envies", x.total(3), 14774 + 5 * 864);
    }

    private static void checkHundredths() {
        // the own plot is worth the first digit, and the others 5 and 1 or 2
        due("1 of 7", shared("0", "151").cousin(0, 7), 14);
        due("1 of 8", shared("0", "152").cousin(0, 7), 12);
        due("7 of 8", shared("0", "71").cousin(0, 7), 87);
        due("5 of 5", shared("0", "5").cousin(0, 7), 100);
        due("0 of 5", shared("0", "05").cousin(0, 7), 0);
        due("0 of 0", shared("0", "").cousin(0, 7), 0);
        due("1 of 101", shared("0", "1999999999999991").cousin(0, 7), 0);
        due("1 of 100", shared("0", "199999999999").cousin(0, 7), 1);
        due("99 of 100", shared("000000000001", "999999999991").cousin(0, 7), 99);
    }

    private static void checkShares() {
        CousinShares x = new CousinShares();
        int[] whats = {4, 5, 6, 7, 9, 10, 11};
        dueRow("nobody has a plot", x, 0, whats, 0, 0, 24, 0, 0, 0, 0);
        due("nobody's", x.total(2), 24);
        due("no envy towards nobody", x.total(3), 0);
        due("content", x.total(4), 7);
        x.give(5, 3);
        dueRow("one has a plot", x, 3, whats, 1, 1, 24, 4, 0, 0, 6);
        dueRow("another one", x, 6, whats, 0, 0, 24, 0, 1, 1, 0);
        due("nobody's", x.total(2), 23);
        due("all envies", x.total(3), 6);
        due("content", x.total(4), 1);
        for (int plot = 0; plot < 24; plot++) {
            x.give(plot, plot % 7);
        }
        due("nobody's", x.total(2), 0);
        // 0, 1, 2 have four plots, the others three
        due("all envies", x.total(3), 12);
        due("content", x.total(4), 3);
    }

    private static void checkSeemingIsRoundedDown() {
        int[][] seems = {{1, 0, 1}, {1, 9, 1}, {2, 4, 2}, {2, 5, 3}, {2, 9, 3}, {3, 3, 3}, {3, 4, 4}, {3, 7, 5}, {4, 2, 4},
            {4, 3, 5}, {5, 1, 5}, {5, 2, 6}, {6, 9, 11}, {7, 9, 13}, {8, 9, 15}, {9, 1, 9}, {9, 2, 10}, {9, 9, 17}, {0, 9, 0}};
        for (int[] row : seems) {
            CousinShares x = shared("1", String.valueOf(row[0]));
            x.grudge(0, 1, row[1]);
            String call = "a worth of " + row[0] + ", a grudge of " + row[1];
            due(call + ": worth", x.pair(0, 1, 1), row[0]);
            due(call + ": seems", x.pair(0, 1, 2), row[2]);
            due(call + ": envy", x.pair(0, 1, 3), row[2]);
        }
        // the whole share is rounded, not each plot
        CousinShares x = shared("11111", "11111");
        x.grudge(0, 1, 5);
        due("five plots of 1", x.pair(0, 1, 2), 7);
        x.grudge(1, 0, 9);
        due("a grudge the other way round", x.pair(0, 1, 2), 7);
        x.grudge(0, 2, 9);
        due("a grudge against another one", x.pair(0, 1, 2), 7);
    }

    private static void checkEnvyIsNotBelowNothing() {
        due("less", shared("01", "32").pair(0, 1, 3), 0);
        due("as much", shared("01", "33").pair(0, 1, 3), 0);
        due("more", shared("01", "34").pair(0, 1, 3), 1);
        CousinShares x = shared("01", "33");
        x.grudge(0, 1, 3);
        due("seems as much", x.pair(0, 1, 3), 0);
        x.grudge(0, 1, 4);
        due("seems more", x.pair(0, 1, 3), 1);
        // to 0: 1 has 3 too few, 2 has 3 too many, 3 has 1 too many
        x = shared("0123", "5286");
        dueRow("what is too few does not count", x, 0, new int[] {9, 10}, 4, 3);
        due("nor in the whole", x.total(3), 4);
        due("the others are content", x.total(4), 6);
    }

    private static void checkEnviesTowards() {
        // each of 0 to 2 has a plot that two of them want; 3 has none
        CousinShares x = shared("012", "153", "217", "111", "204");
        int[] whats = {9, 10, 11};
        dueRow("to 0: 4 and 2 too many", x, 0, whats, 6, 4, 0 + 1 + 0 + 2);
        dueRow("to 1: 1 and 6 too many", x, 1, whats, 7, 6, 4 + 0 + 0);
        dueRow("to 2: none", x, 2, whats, 0, 0, 2 + 6 + 4);
        dueRow("to 3: 2, none and 4", x, 3, whats, 6, 4, 0);
        dueRow("4 wants nothing", x, 4, whats, 0, 0, 0);
        due("all envies", x.total(3), 6 + 7 + 6);
        due("who envy nobody", x.total(4), 4);
        x.grudge(2, 1, 9);
        due("a grudge alone makes no envy of 1 against 1", x.total(3), 19);
        due("who envy nobody", x.total(4), 4);
    }

    private static void dueWhy(String call, CousinShares x, int why, int whyBack) {
        due(call, x.pair(0, 1, 4), why);
        due(call + ", the other way round", x.pair(1, 0, 4), whyBack);
        due(call + ": pairs", x.total(5), why == 0 ? 1 : 0);
        due(call + ": best", x.bestTrade(0), why == 0 ? 1 : NONE);
        if (why != 0) {
            due(call + ": trade", x.trade(0, 1), -10 - why);
            due(call + ": trade the other way round", x.trade(1, 0), -10 - whyBack);
            due(call + ": settle", x.settle(), NONE);
        }
    }

    private static void checkWhyNot() {
        dueWhy("both want more", shared("01", "12", "21"), 0, 0);
        dueWhy("as much to the first", shared("01", "22", "21"), 2, 3);
        dueWhy("less to the first", shared("01", "21", "21"), 2, 3);
        dueWhy("as much to the second", shared("01", "12", "11"), 3, 2);
        dueWhy("less to the second", shared("01", "12", "12"), 3, 2);
        dueWhy("neither wants it", shared("01", "21", "12"), 2, 2);
        dueWhy("as much to both", shared("01", "11", "11"), 2, 2);
        dueWhy("no plots", new CousinShares(), 2, 2);
        dueWhy("an empty share is never worth more", shared("0", "0", "9"), 2, 3);
        // a grudge makes a share seem greater, but this is not asked
        CousinShares x = shared("01", "99", "21");
        x.grudge(0, 1, 4);
        due("it seems more", x.pair(0, 1, 3), 3);
        dueWhy("it seems more, but is not", x, 2, 3);
    }

    private static void checkSpiteKeepsFromTrades() {
        for (int spite = 1; spite <= 10; spite++) {
            for (int grudge = Math.max(0, spite - 1); grudge <= Math.min(9, spite + 1); grudge++) {
                CousinShares x = shared("01", "12", "21");
                x.set(1, spite);
                x.grudge(0, 1, grudge);
                int why = grudge >= spite ? 1 : 0;
                dueWhy("grudge " + grudge + ", SPITE " + spite, x, why, why);
                x.grudge(0, 1, 0);
                x.grudge(1, 0, grudge);
                dueWhy("grudge back " + grudge + ", SPITE " + spite, x, why, why);
            }
        }
        CousinShares x = shared("01", "21", "12");
        x.grudge(1, 0, 5);
        dueWhy("the grudge is the first reason", x, 1, 1);
        x = shared("01", "12", "21");
        perform(x, "g02=9;g20=9;g12=9;g21=9");
        due("grudges against others: trade", x.trade(0, 1), 0);
    }

    private static void checkTrade() {
        // 0 has two plots, 1 one plot; 2 has one that both want; 4 is nobody's
        CousinShares x = shared("00127", "10459", "21059");
        int before = x.total(9);
        due("envies", x.total(3), 3 + 4 + 3 + 5);
        due("trade", x.trade(1, 0), 1 + 2);
        dueOwners("whole shares", x, "1102" + "7".repeat(20));
        due("then", x.total(3), 3);
        due("trades", x.total(8), 1);
        due("one change", x.total(9), Math.min(4, before + 1));
        due("not back", x.trade(1, 0), -12);
        due("not back", x.trade(0, 1), -12);
        due("no trade more", x.total(8), 1);
    }

    private static void checkTradeOfManyPlots() {
        CousinShares x = owned("0123".repeat(6));
        perform(x, "w0=0100;w1=1000");
        // six plots each; 0 and 1 are content then, 2 and 3 are so all the time, and 4 to 6 have none
        due("trade", x.trade(0, 1), 3 * 24);
        dueOwners("all plots of both", x, "1023".repeat(6));
        x.set(1, 10);
        perform(x, "w0=0010;w2=0100;w1=1000;w3=0001");
        due("0 and 2", x.bestTrade(0), 2);
        due("settle", x.settle(), 1);
        dueOwners("all plots of both", x, "1203".repeat(6));
    }

    private static void checkTradeOfSeven() {
        for (int first = 0; first < 7; first++) {
            for (int second = 0; second < 7; second++) {
                if (first != second) {
                    CousinShares x = new CousinShares();
                    perform(x, "w" + first + "=0100;w" + second + "=1000");
                    x.give(0, first);
                    x.give(1, second);
                    due("the best of all pairs", x.bestTrade(0), 10 * Math.min(first, second) + Math.max(first, second));
                    // the five others envy both for one plot
                    due("what it leaves", x.bestTrade(1), 10);
                    due("trade", x.trade(first, second), 10);
                    due("the plot of the first", x.plot(0, 4), second);
                    due("the plot of the second", x.plot(1, 4), first);
                }
            }
        }
    }

    /** The own plots are 0, 1, 2; 0 would trade with both, who would not trade with one another. */
    private static CousinShares twoOffers(String ofZero, String ofOne, String ofTwo) {
        return shared("012", ofZero, ofOne, ofTwo);
    }

    private static void checkBestTrade() {
        CousinShares x = twoOffers("155", "510", "501");
        due("pairs", x.total(5), 2);
        due("the lowest second of two alike", x.bestTrade(0), 1);
        due("what either leaves", x.bestTrade(1), 4);
        x = twoOffers("155", "510", "601");
        due("the better second", x.bestTrade(0), 2);
        due("what is left", x.bestTrade(1), 4);
        x.grudge(2, 0, 5);
        due("the better one does not want it", x.bestTrade(0), 1);
        due("what is left then", x.bestTrade(1), 5);
        x = twoOffers("155", "610", "501");
        due("the better first", x.bestTrade(0), 1);
        due("what is left", x.bestTrade(1), 4);
        due("no change of the plots", x.plot(0, 4), 0);
        due("no trade", x.total(8), 0);

        x = shared("0123", "1003", "0130", "0310", "3001");
        due("two pairs alike", x.total(5), 2);
        due("the lowest first one", x.bestTrade(0), 3);
        due("what is left", x.bestTrade(1), 4);
        x = shared("0123", "1003", "0140", "0310", "3001");
        due("the better pair", x.bestTrade(0), 12);
        due("what is left", x.bestTrade(1), 4);
    }

    /** A trade that makes the envies greater is one all the same. */
    private static void checkTradeThatLeavesMoreEnvy() {
        CousinShares x = shared("01", "12", "21", "09", "09");
        perform(x, "g20=9;g30=9");
        due("envies", x.total(3), 1 + 1 + 9 + 9);
        due("the only trade", x.bestTrade(0), 1);
        due("what it leaves", x.bestTrade(1), 17 + 17);
        due("settle", x.settle(), 1);
        due("then", x.total(3), 34);
    }

    private static void checkSettle() {
        due("nobody has a plot", new CousinShares().settle(), NONE);
        // 0 would trade with 1 as well, but with 2 less envy is left
        CousinShares x = twoOffers("129", "210", "201");
        due("the first pair would leave", x.pair(0, 1, 4), 0);
        due("the best one", x.bestTrade(0), 2);
        due("it leaves", x.bestTrade(1), 1);
        due("one trade", x.settle(), 1);
        dueOwners("the best one's", x, "210" + "7".repeat(21));
        due("no more", x.settle(), NONE);
        due("trades so far", x.total(8), 1);

        // the best trade of then: 0 and 1 first, then 1 and 2
        x = owned("201");
        perform(x, "w0=9040;w1=0940;w2=4490");
        x.keep();
        due("pairs at first", x.total(5), 1);
        due("two trades", x.settle(), 2);
        dueOwners("each has the own crop", x, "012" + "7".repeat(21));
        due("trades so far", x.total(8), 2);
        due("pairs in the end", x.total(5), 0);
        due("one change alone", x.undo(), 3);
        dueOwners("both undone", x, "201" + "7".repeat(21));
        due("trades undone", x.total(8), 0);
        due("again", x.settle(), 2);
        due("trades so far", x.total(8), 2);
        x.grudge(0, 1, 5);
        x.restore();
        x.grudge(1, 0, 5);
        due("a grudge keeps them from it", x.settle(), NONE);
    }

    /** Seven plots, one for each cousin; grudges decide which trade is the best, but keep nobody from one. */
    private static CousinShares longSettling() {
        String[] amounts = {"1484", "2711", "1048", "6182", "7026", "3384", "8151"};
        String[] weights = {"8065", "1328", "2660", "3715", "7840", "9013", "1918"};
        String[] grudges = {"0403873", "0084535", "2406048", "2070152", "2292071", "7402601", "1783080"};
        CousinShares x = new CousinShares();
        for (int cousin = 0; cousin < 7; cousin++) {
            perform(x, "p" + cousin + "=" + amounts[cousin] + ";w" + cousin + "=" + weights[cousin]);
            for (int other = 0; other < 7; other++) {
                x.grudge(cousin, other, grudges[cousin].charAt(other) - '0');
            }
        }
        x.set(1, 10);
        giveAll(x, "0123456");
        return x;
    }

    private static void checkLongSettling() {
        int[][] trades = {{2, 6, 1385}, {1, 4, 1012}, {3, 5, 811}, {0, 3, 719}, {2, 5, 631}, {0, 1, 641}, {1, 6, 601},
            {4, 6, 590}, {3, 6, 578}, {0, 5, 579}, {2, 4, 664}, {0, 4, 633}};
        CousinShares x = longSettling();
        for (int[] trade : trades) {
            due("the best trade of then", x.bestTrade(0), 10 * trade[0] + trade[1]);
            due("what it leaves", x.bestTrade(1), trade[2]);
            due("trade", x.trade(trade[0], trade[1]), trade[2]);
        }
        due("nobody wants one more", x.bestTrade(0), NONE);
        CousinShares y = longSettling();
        due("twelve trades at once", y.settle(), trades.length);
        dueOwners("twelve trades at once", y, "6310524" + "7".repeat(17));
        dueText("the same as one by one", state(y), state(x));
        due("trades so far", y.total(8), trades.length);
        due("one change", y.undo(), 3);
        dueOwners("all undone", y, "0123456" + "7".repeat(17));
        due("trades undone", y.total(8), 0);
    }

    private static void checkPairsThatWouldTrade() {
        CousinShares x = owned("0123456");
        due("alike", x.total(5), 0);
        // each of 0, 2, 4, 6 has crop 0 or 2 and wants crop 1 or 3; 1, 3, 5 the other way round
        perform(x, "w0=0101;w1=1010;w2=0101;w3=1010;w4=0101;w5=1010;w6=0101");
        due("four times three", x.total(5), 12);
        x.grudge(0, 1, 5);
        due("one pair fewer", x.total(5), 11);
        x.grudge(1, 0, 5);
        due("the same pair", x.total(5), 11);
        x.set(1, 6);
        due("below SPITE", x.total(5), 12);
    }

    private static void checkPlaces() {
        CousinShares x = new CousinShares();
        perform(x, "g01=1;g02=1;g10=3;g34=2;g61=9;g62=1");
        int[] sums = {2, 3, 0, 2, 0, 0, 10};
        int[] places = {2, 1, 4, 3, 5, 6, 0};
        for (int cousin = 0; cousin < 7; cousin++) {
            due("the sum of " + cousin, x.cousin(cousin, 8), sums[cousin]);
            due("the place of " + cousin + " by numbers", x.cousin(cousin, 12), cousin);
        }
        x.set(0, 1);
        for (int cousin = 0; cousin < 7; cousin++) {
            due("the place of " + cousin + " by grudges", x.cousin(cousin, 12), places[cousin]);
        }
        x = new CousinShares();
        perform(x, "g60=9;g61=9;g62=9;g63=9;g64=9;g65=9");
        due("the greatest sum", x.cousin(6, 8), 54);
    }

    public static void main(String[] args) {
        checkWorths();
        checkGreatestNumbers();
        checkHundredths();
        checkShares();
        checkSeemingIsRoundedDown();
        checkEnvyIsNotBelowNothing();
        checkEnviesTowards();
        checkWhyNot();
        checkSpiteKeepsFromTrades();
        checkTrade();
        checkTradeOfManyPlots();
        checkTradeOfSeven();
        checkBestTrade();
        checkTradeThatLeavesMoreEnvy();
        checkSettle();
        checkLongSettling();
        checkPairsThatWouldTrade();
        checkPlaces();
        finish();
    }
}
