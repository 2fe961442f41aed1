/**
 * The part 'DIVIDING' of the document, sentence by sentence, and what divide,
 * ifDivided and bestWithout say of it. Most runs let each cousin want a row of
 * its own, so that the fair pieces can be read off the rows: the fair piece of
 * one who wants only(p) ends with the plot p.
 */
public final class DividingTest extends Answers {
    private static final String NOTHING = "";
    private static final String EVEN = "1".repeat(24);

    /** Some plots of one cousin, then some of another, all others of a third. */
    private static String row(int first, int count, int second, int next, int third) {
        return (row(first, count, second).substring(0, count + next) + String.valueOf(third).repeat(24)).substring(0, 24);
    }

    private static String row(int first, int count, int second) {
        return (String.valueOf(first).repeat(count) + String.valueOf(second).repeat(24)).substring(0, 24);
    }

    private static String row(int owner) {
        return row(owner, 24, owner);
    }

    /** What ifDivided tells, and what divide then does. */
    private static void dueDivision(String call, CousinShares x, int party, String owners, int trims, int ofGrudge) {
        int trimsBefore = x.total(6);
        int ofGrudgeBefore = x.total(7);
        due(call + ": trims would be", x.ifDivided(party, 0), trims);
        due(call + ": trims out of a grudge would be", x.ifDivided(party, 1), ofGrudge);
        due(call + ": the plot 0 would go to", x.ifDivided(party, 3), owners.charAt(0) - '0');
        due(call, x.divide(party), trims);
        dueOwners(call, x, owners);
        due(call + ": trims", x.total(6) - trimsBefore, trims);
        due(call + ": trims out of a grudge", x.total(7) - ofGrudgeBefore, ofGrudge);
    }

    private static void checkPlotsOfBefore() {
        CousinShares x = owned("6".repeat(24));
        x.divide(3);
        due("the plots of one who takes no part", x.cousin(6, 4), 0);
        dueOwners("dividing all anew", x, row(0, 12, 1));
        x.divide(64);
        dueOwners("dividing all anew", x, row(6));
    }

    private static void checkOneAlone() {
        for (int cousin = 0; cousin < 7; cousin++) {
            CousinShares x = new CousinShares();
            x.set(1, 1);
            x.grudge(cousin, (cousin + 1) % 7, 9);
            x.grudge((cousin + 1) % 7, cousin, 9);
            dueDivision("one alone", x, 1 << cousin, row(cousin), 0, 0);
            due("the last rest of one alone", x.ifDivided(1 << cousin, 4), cousin);
            perform(x, "w" + cousin + "=0000");
            dueDivision("one alone to whom it is worth nothing", x, 1 << cousin, row(cousin), 0, 0);
        }
    }

    private static void checkEvenPlots() {
        // n counts those who are left, and the rest alone is looked at: 24/7, 20/6, 16/5, 12/4, ...
        String[] owners = {row(0), row(0, 12, 1), row(0, 8, 1, 8, 2), "000000111111222222333333",
            "000001111122222333334444", "000011112222333344445555", "000011112222333444555666"};
        for (int count = 1; count <= 7; count++) {
            int party = (1 << count) - 1;
            dueDivision(count + " cousins", new CousinShares(), party, owners[count - 1], 0, 0);
            due(count + " cousins: the last rest", new CousinShares().ifDivided(party, 4), count - 1);
        }
        dueDivision("three of a set", new CousinShares(), 2 + 16 + 64, row(1, 8, 4, 8, 6), 0, 0);
        dueDivision("the first and the last one", new CousinShares(), 1 + 64, row(0, 12, 6), 0, 0);
    }

    private static void checkLeastPiece() {
        dueDivision("twice 5 is 10", wanted("50000000000000000000005", EVEN), 3, row(0, 1, 1), 0, 0);
        dueDivision("twice 4 is less than 9", wanted("4000005", EVEN), 3, row(0, 7, 1), 0, 0);
        dueDivision("twice 5 is more than 9", wanted("50000004", EVEN), 3, row(0, 1, 1), 0, 0);
        dueDivision("no worthless plot behind it", wanted("0001001", EVEN), 3, row(0, 4, 1), 0, 0);
        // the others then have 22 and 20 even plots
        dueDivision("a third of 6", wanted("0202020", EVEN, EVEN), 7, row(0, 2, 1, 11, 2), 0, 0);
        dueDivision("less than a third of 7", wanted("0202021", EVEN, EVEN), 7, row(0, 4, 1, 10, 2), 0, 0);
    }

    private static void checkPieceOfNoPlots() {
        CousinShares x = wanted(NOTHING, EVEN);
        dueDivision("a cutter to whom it is worth nothing", x, 3, row(1), 0, 0);
        due("that one's plots", x.cousin(0, 4), 0);
        due("the last rest is all", x.ifDivided(3, 4), 1);

        x = wanted(only(0), only(0), EVEN);
        dueDivision("a rest worth nothing, but not all", x, 7, row(0, 1, 2), 0, 0);
        due("the plots of the cutter of that rest", x.cousin(1, 4), 0);

        x = wanted(NOTHING, NOTHING, NOTHING, NOTHING);
        perform(x, "g10=9;g20=9;g21=9;g30=9;g31=9;g32=9");
        dueDivision("nobody trims what has no plot", x, 15, row(3), 0, 0);
    }

    private static void checkPieceOfAllPlots() {
        CousinShares x = wanted(only(23), only(23));
        dueDivision("a piece of all plots", x, 3, row(0), 0, 0);
        due("the last rest, of no plots", x.ifDivided(3, 4), 1);
        x = wanted(only(23), only(23), only(23));
        x.grudge(2, 1, 9);
        dueDivision("then a piece of the empty rest", x, 7, row(0), 0, 0);
        due("the last rest, of no plots", x.ifDivided(7, 4), 2);
    }

    private static void checkTrimToFairPiece() {
        dueDivision("one plot fewer", wanted(only(7), only(6)), 3, row(1, 7, 0), 1, 0);
        dueDivision("as many", wanted(only(7), only(7)), 3, row(0, 8, 1), 0, 0);
        dueDivision("one plot more", wanted(only(7), only(8)), 3, row(0, 8, 1), 0, 0);
        dueDivision("down to one plot", wanted(only(7), only(0)), 3, row(1, 1, 0), 1, 0);
        CousinShares x = wanted(only(7), NOTHING);
        dueDivision("down to no plot", x, 3, row(0), 1, 0);
        due("who then has the last rest", x.ifDivided(3, 4), 0);
        x = wanted(only(7), only(5));
        x.grudge(1, 0, 9);
        dueDivision("with a grudge too, but for being fewer", x, 3, row(1, 6, 0), 1, 0);
        x = wanted(only(7), NOTHING);
        x.grudge(1, 0, 9);
        dueDivision("with a grudge too, to no plot", x, 3, row(0), 1, 0);
    }

    private static void checkTrimOutOfGrudge() {
        for (int spite = 1; spite <= 10; spite++) {
            for (int grudge = Math.max(0, spite - 2); grudge <= Math.min(9, spite + 1); grudge++) {
                CousinShares x = wanted(only(7), only(7));
                x.set(1, spite);
                x.grudge(1, 0, grudge);
                int trims = grudge >= spite ? 1 : 0;
                String owners = trims == 1 ? row(1, 7, 0) : row(0, 8, 1);
                dueDivision("grudge " + grudge + ", SPITE " + spite, x, 3, owners, trims, trims);
            }
        }
        CousinShares x = wanted(only(7), only(8));
        x.grudge(1, 0, 9);
        dueDivision("a grudge, but a greater fair piece", x, 3, row(0, 8, 1), 0, 0);
        x = wanted(only(7), only(7));
        perform(x, "g01=9;g12=9;g20=9");
        dueDivision("grudges of and against others", x, 3, row(0, 8, 1), 0, 0);
        x = wanted(only(1), only(1));
        x.grudge(1, 0, 5);
        dueDivision("two plots become one", x, 3, row(1, 1, 0), 1, 1);
        x = wanted(only(0), only(0));
        x.grudge(1, 0, 5);
        dueDivision("one plot becomes none", x, 3, row(0), 1, 1);
        due("who then has the last rest", x.ifDivided(3, 4), 0);
        x = wanted(NOTHING, NOTHING);
        x.grudge(1, 0, 5);
        dueDivision("no plot becomes no fewer", x, 3, row(1), 0, 0);
    }

    /** Each run is 0 as the cutter, then 1, then 2; and a second round of the two who are left. */
    private static void checkTrimsOneAfterTheOther() {
        CousinShares x = wanted(only(7), only(6), only(6));
        x.grudge(2, 1, 5);
        // 8 plots; 1 trims to 7, 2 to 6 out of a grudge; then 0 cuts 6 and 7, 1 trims to 6
        dueDivision("a grudge against the one who trimmed", x, 7, row(2, 6, 1, 1, 0), 3, 1);

        x = wanted(only(7), only(6), only(6));
        perform(x, "g20=9;g21=4");
        // 1 keeps the 7 plots; then 0 cuts 7, and 2 trims to nothing
        dueDivision("a grudge against the cutter, who does not hold it", x, 7, row(1, 7, 0), 2, 0);

        x = wanted(only(7), only(7), only(7));
        perform(x, "g10=5;g21=9");
        // the fair 8 plots of 2 are more than the 7; then 0 cuts 7, and 2 wants as many
        dueDivision("more than what a grudge left", x, 7, row(1, 7, 0, 1, 2), 1, 1);

        x = wanted(only(7), only(7), only(6));
        perform(x, "g10=5;g21=5");
        // 7 and 6 out of grudges; then 0 cuts 6 and 7, and 1 trims that out of a grudge too
        dueDivision("as many as what a grudge left", x, 7, row(2, 6, 1, 1, 0), 3, 3);

        x = wanted(only(7), only(7), only(5));
        perform(x, "g10=5;g21=9");
        dueDivision("fewer than what a grudge left", x, 7, row(2, 6, 1, 1, 0), 3, 2);

        x = wanted(only(0), only(0), NOTHING);
        perform(x, "g10=9;g21=9");
        // none is left of one plot, so 2 does not trim it; then 0 cuts 0, and 2 trims that to nothing
        dueDivision("nothing left of one plot", x, 7, row(0), 2, 1);
    }

    private static void checkRoundsBehindEachOther() {
        // 1 gets 0 to 6 and is out of it; 0 cuts again, for two, from the plot 7 on: 1 of 1
        dueDivision("the cutter who lost cuts again", wanted(only(7), only(6), EVEN), 7, row(1, 7, 0, 1, 2), 1, 0);
        // 0 cuts 4 of 12, 1 trims to 3 of 9; then 0 cuts 5 of the 9 that are left to it, for two
        CousinShares x = wanted("111111111111", "111111111", EVEN);
        dueDivision("n is two in the second round", x, 7, "111000002222222222222222", 1, 0);
        due("the last rest", x.ifDivided(7, 4), 2);
    }

    private static void checkOrder() {
        CousinShares x = new CousinShares();
        perform(x, "g16=3;g25=3");
        dueDivision("by rising numbers", x, 7, row(0, 8, 1, 8, 2), 0, 0);
        x.set(0, 1);
        dueDivision("the same sum, of grudges against others", x, 7, row(1, 8, 2, 8, 0), 0, 0);
        due("the last rest", x.ifDivided(7, 4), 0);
        x.grudge(2, 5, 4);
        dueDivision("a greater sum", x, 7, row(2, 8, 1, 8, 0), 0, 0);
        x.grudge(1, 3, 2);
        dueDivision("a sum of two grudges", x, 7, row(1, 8, 2, 8, 0), 0, 0);
        x = new CousinShares();
        x.set(0, 1);
        x.grudge(1, 0, 4);
        dueDivision("the own grudges, not those of others", x, 7, row(1, 8, 0, 8, 2), 0, 0);
        x = new CousinShares();
        x.set(0, 1);
        dueDivision("no grudges", x, 127, "000011112222333444555666", 0, 0);
        x.grudge(6, 0, 1);
        dueDivision("the last one first", x, 127, "666600001111222333444555", 0, 0);
    }

    private static void checkTrimsByOrder() {
        CousinShares x = wanted(NOTHING, only(5), only(6), only(7));
        perform(x, "g36=9;g26=5");
        dueDivision("rising numbers: fair pieces that grow", x, 14, row(1, 6, 2, 1, 3), 0, 0);
        x.set(0, 1);
        // 3 cuts 8 plots, 2 trims to 7, 1 to 6; then 3 cuts 6 and 7, 2 trims to 6
        dueDivision("falling grudges: fair pieces that shrink", x, 14, row(1, 6, 2, 1, 3), 3, 0);
        due("the last rest", x.ifDivided(14, 4), 3);
    }

    private static void checkTrimsOfOneCallOnly() {
        CousinShares x = wanted(only(7), only(6));
        due("the first time", x.divide(3), 1);
        due("the second time", x.divide(3), 1);
        due("what would be", x.ifDivided(3, 0), 1);
        due("trims so far", x.total(6), 2);
    }

    private static void checkEnviesIfDivided() {
        CousinShares x = new CousinShares();
        due("envies of six who get nothing", x.ifDivided(1, 2), 6 * 24);
        due("envies of five who get nothing", x.ifDivided(3, 2), 5 * 24);
        due("envies of 3 plots against 4", x.ifDivided(127, 2), 4 * 3);
        due("envies now", x.total(3), 0);
        x.grudge(2, 0, 5);
        due("with a grudge of one who gets nothing", x.ifDivided(3, 2), 5 * 24 + 6);
        x.grudge(0, 1, 1);
        due("with a grudge of one who takes part", x.ifDivided(3, 2), 5 * 24 + 6 + 1);
        x.divide(3);
        due("the same then", x.total(3), 127);
    }

    private static void dueWithout(String call, String grudges, int cousin, int sum) {
        CousinShares x = new CousinShares();
        x.set(1, 10);
        perform(x, grudges);
        due(call + ": the cousin", x.bestWithout(0), cousin);
        due(call + ": the sum", x.bestWithout(1), sum);
    }

    private static void checkBestWithout() {
        // six have four plots each; to a grudge of 9 these seem 7, by 3 too many
        dueWithout("no envy", "g01=0", 0, 0);
        for (int cousin = 0; cousin < 7; cousin++) {
            StringBuilder grudges = new StringBuilder("g01=0");
            for (int other = 0; other < 7; other++) {
                grudges.append(other == cousin ? "" : ";g" + cousin + other + "=9");
            }
            dueWithout(cousin + " alone has grudges", grudges.toString(), cousin, 0);
        }
        dueWithout("2 and 3, either", "g23=9", 2, 0);
        dueWithout("5 and 6, either", "g65=9", 5, 0);
        dueWithout("two have grudges, and either stays", "g40=9;g41=9;g42=9;g50=9;g51=9;g52=9", 4, 9);
        dueWithout("two have grudges, one has more", "g40=9;g41=9;g50=9;g51=9;g52=9", 5, 6);
    }

    /** Seven would have one plot each; of six the first one has two, which the five others envy. */
    private static void checkSomebodyIsLeftOut() {
        CousinShares x = new CousinShares();
        for (int plot = 7; plot < 24; plot++) {
            x.plant(plot, plot % 4, 0);
        }
        due("all of them would be better", x.ifDivided(127, 2), 0);
        due("the cousin", x.bestWithout(0), 0);
        due("the sum", x.bestWithout(1), 5);
    }

    public static void main(String[] args) {
        checkPlotsOfBefore();
        checkOneAlone();
        checkEvenPlots();
        checkLeastPiece();
        checkPieceOfNoPlots();
        checkPieceOfAllPlots();
        checkTrimToFairPiece();
        checkTrimOutOfGrudge();
        checkTrimsOneAfterTheOther();
        checkRoundsBehindEachOther();
        checkOrder();
        checkTrimsByOrder();
        checkTrimsOfOneCallOnly();
        checkEnviesIfDivided();
        checkBestWithout();
        checkSomebodyIsLeftOut();
        finish();
    }
}
