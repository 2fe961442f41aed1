/** Each promise of the document, with answers worked out by hand from its words. */
public final class PromisesTest extends Answers {
    private static void promise1NewObject() {
        due("UNKNOWN", CousinShares.UNKNOWN, -1);
        due("OUT_OF_RANGE", CousinShares.OUT_OF_RANGE, -2);
        due("FULL", CousinShares.FULL, -3);
        due("NONE", CousinShares.NONE, -5);
        due("REFUSED", CousinShares.REFUSED, -10);
        CousinShares x = new CousinShares();
        for (int plot = 0; plot < 24; plot++) {
            for (int crop = 0; crop < 4; crop++) {
                due("new plot(" + plot + ", " + crop + ")", x.plot(plot, crop), plot % 4 == crop ? 1 : 0);
            }
            due("new plot(" + plot + ", 4)", x.plot(plot, 4), 7);
            for (int cousin = 0; cousin < 7; cousin++) {
                due("new plot worth", x.plot(plot, 5 + cousin), 1);
            }
        }
        int[] cousin = {1, 1, 1, 1, 0, 0, 24, 0, 0, 0, 0, 0};
        for (int c = 0; c < 7; c++) {
            for (int what = 0; what < cousin.length; what++) {
                due("new cousin(" + c + ", " + what + ")", x.cousin(c, what), cousin[what]);
            }
            due("new cousin(" + c + ", 12)", x.cousin(c, 12), c);
        }
        int[] total = {0, 5, 24, 0, 7, 0, 0, 0, 0, 0, 0};
        for (int what = 0; what < total.length; what++) {
            due("new total(" + what + ")", x.total(what), total[what]);
        }
        due("new pair(0, 1, 0)", x.pair(0, 1, 0), 0);
    }

    private static void promise2Plant() {
        CousinShares x = new CousinShares();
        due("plant first", x.plant(23, 3, 9), 1);
        due("plant again", x.plant(23, 3, 0), 9);
        due("plant a second crop", x.plant(0, 3, 2), 0);
        due("amount", x.plot(0, 3), 2);
        due("amount of the other crop", x.plot(0, 0), 1);
        due("amount of the other plot", x.plot(3, 3), 1);
        due("worth", x.plot(0, 11), 3);
        due("same", x.plant(0, 3, 2), NONE);
        due("history", x.total(9), 3);
        due("plot 24", x.plant(24, 0, 5), UNKNOWN);
        due("crop 4", x.plant(0, 4, 5), UNKNOWN);
        due("amount 10", x.plant(0, 0, 10), OUT_OF_RANGE);
        due("plot ahead of amount", x.plant(24, 0, 10), UNKNOWN);
        due("crop ahead of amount", x.plant(0, 4, -1), UNKNOWN);
        for (int bad : WRONG) {
            due("plant plot", x.plant(bad, 0, 5), UNKNOWN);
            due("plant crop", x.plant(0, bad, 5), UNKNOWN);
            due("plant amount", x.plant(0, 0, bad), OUT_OF_RANGE);
        }
        due("history after errors", x.total(9), 3);
    }

    private static void promise3Weigh() {
        CousinShares x = new CousinShares();
        due("weigh first", x.weigh(6, 3, 9), 1);
        due("weigh again", x.weigh(6, 3, 0), 9);
        due("weigh once more", x.weigh(6, 2, 7), 1);
        due("weight", x.cousin(6, 2), 7);
        due("weight of another", x.cousin(5, 2), 1);
        due("worth of plot 2", x.plot(2, 11), 7);
        due("worth of plot 23", x.plot(23, 11), 0);
        due("worth of all", x.cousin(6, 6), 6 * (1 + 1 + 7));
        due("same", x.weigh(6, 2, 7), NONE);
        due("history", x.total(9), 3);
        due("cousin 7", x.weigh(7, 0, 10), UNKNOWN);
        due("crop 4", x.weigh(0, 4, 10), UNKNOWN);
        due("weight 10", x.weigh(0, 0, 10), OUT_OF_RANGE);
        for (int bad : WRONG) {
            due("weigh cousin", x.weigh(bad, 0, 5), UNKNOWN);
            due("weigh crop", x.weigh(0, bad, 5), UNKNOWN);
            due("weigh weight", x.weigh(0, 0, bad), OUT_OF_RANGE);
        }
        due("history after errors", x.total(9), 3);
    }

    private static void promise4Grudge() {
        CousinShares x = new CousinShares();
        due("grudge first", x.grudge(0, 6, 9), 0);
        due("grudge again", x.grudge(0, 6, 3), 9);
        due("grudge back", x.grudge(6, 0, 1), 0);
        due("pair", x.pair(0, 6, 0), 3);
        due("pair back", x.pair(6, 0, 0), 1);
        due("same", x.grudge(0, 6, 3), NONE);
        due("history", x.total(9), 3);
        due("cousin 7", x.grudge(7, 0, 10), UNKNOWN);
        due("other 7", x.grudge(0, 7, 10), UNKNOWN);
        due("both 7", x.grudge(7, 7, 10), UNKNOWN);
        due("both the same", x.grudge(3, 3, 0), OUT_OF_RANGE);
        due("grudge 10", x.grudge(3, 4, 10), OUT_OF_RANGE);
        for (int bad : WRONG) {
            due("grudge cousin", x.grudge(bad, 0, 5), UNKNOWN);
            due("grudge other", x.grudge(0, bad, 5), UNKNOWN);
            due("grudge grudge", x.grudge(0, 1, bad), OUT_OF_RANGE);
        }
        due("history after errors", x.total(9), 3);
    }

    private static void promise5Set() {
        CousinShares x = new CousinShares();
        due("set ORDER", x.set(0, 1), 0);
        due("set ORDER back", x.set(0, 0), 1);
        due("set SPITE", x.set(1, 10), 5);
        due("set SPITE again", x.set(1, 1), 10);
        due("total(0)", x.total(0), 0);
        due("total(1)", x.total(1), 1);
        due("same ORDER", x.set(0, 0), NONE);
        due("same SPITE", x.set(1, 1), NONE);
        due("ORDER 2", x.set(0, 2), OUT_OF_RANGE);
        due("ORDER -1", x.set(0, -1), OUT_OF_RANGE);
        due("SPITE 0", x.set(1, 0), OUT_OF_RANGE);
        due("SPITE 11", x.set(1, 11), OUT_OF_RANGE);
        due("setting 2", x.set(2, 99), UNKNOWN);
        for (int bad : WRONG) {
            due("setting", x.set(bad, 1), UNKNOWN);
            due("ORDER", x.set(0, bad), OUT_OF_RANGE);
            due("SPITE", x.set(1, bad), OUT_OF_RANGE);
        }
        due("SPITE after errors", x.total(1), 1);
    }

    private static void promise6Divide() {
        CousinShares x = new CousinShares();
        due("divide(127)", x.divide(127), 0);
        // 24/7, 20/6, 16/5, 12/4, 9/3, 6/2, each rounded up
        dueOwners("divide(127)", x, "000011112222333444555666");
        due("divide among one", x.divide(1 << 6), 0);
        dueOwners("divide among one", x, "666666666666666666666666");
        due("divide(0)", x.divide(0), OUT_OF_RANGE);
        due("divide(128)", x.divide(128), OUT_OF_RANGE);
        for (int bad : WRONG) {
            due("divide", x.divide(bad), OUT_OF_RANGE);
        }
        dueOwners("divide wrongly", x, "666666666666666666666666");
        due("history", x.total(9), 2);
    }

    private static void promise6Trims() {
        // The cousin 1 sees all worth in the crop 0: the third one of its
        // six plots is the plot 8, so the fair piece has 9 plots, not 12.
        CousinShares x = new CousinShares();
        perform(x, "w1=1000");
        due("a trim", x.divide(3), 1);
        dueOwners("a trim", x, "111111111000000000000000");
        due("trims", x.total(6), 1);
        due("grudge trims", x.total(7), 0);

        // As many plots: trimmed only for a grudge of SPITE or more.
        x = new CousinShares();
        x.grudge(1, 0, 4);
        due("below SPITE", x.divide(3), 0);
        dueOwners("below SPITE", x, "000000000000111111111111");
        x.grudge(1, 0, 5);
        due("at SPITE", x.divide(3), 1);
        dueOwners("at SPITE", x, "111111111110000000000000");
        due("trims", x.total(6), 1);
        due("grudge trims", x.total(7), 1);

        // The grudge counts against the one who holds it by then, not the
        // cutter; whose fair piece is greater than a trimmed one lets it be.
        x = new CousinShares();
        perform(x, "w1=1000;g21=9");
        due("against the holder", x.divide(7), 1);
        // 24/3 = 8 plots cut by 0; 1 needs 2 of its 6 plots: 5 plots
        dueOwners("against the holder", x, "111110000000000222222222");
        perform(x, "w2=1000");
        // 2 trims what 1 holds by then to 4 plots; of the 20 left 0 cuts 10, and 1
        // trims them to the third one of its five plots: 9
        due("after a trim", x.divide(7), 3);
        dueOwners("after a trim", x, "222211111111100000000000");
        due("grudge trims after", x.total(7), 1);

        // A piece without plots is not trimmed out of a grudge.
        x = new CousinShares();
        perform(x, "w0=0000;w1=0000;g10=9");
        due("no plots", x.divide(3), 0);
        dueOwners("no plots", x, "111111111111111111111111");
        perform(x, "g10=0;w1=1111");
        due("no plots, a greater fair piece", x.divide(3), 0);
        dueOwners("no plots, a greater fair piece", x, "111111111111111111111111");
        perform(x, "w0=1111;w1=0000");
        due("trimmed to nothing", x.divide(3), 1);
        dueOwners("trimmed to nothing", x, "000000000000000000000000");

        // One plot can be trimmed away out of a grudge.
        x = new CousinShares();
        perform(x, "p0=9999;w0=1000;w1=1000;g10=5");
        due("one plot", x.divide(3), 1);
        dueOwners("one plot", x, "000000000000000000000000");
    }

    private static void promise6Order() {
        CousinShares x = new CousinShares();
        perform(x, "g25=3;g63=3;g41=2");
        x.set(0, 1);
        due("divide by grudges", x.divide(127), 0);
        dueOwners("divide by grudges", x, "222266664444000111333555");
        x.divide(1 + 2 + 16);
        dueOwners("divide some by grudges", x, "444444440000000011111111");
    }

    private static void promise7Give() {
        CousinShares x = new CousinShares();
        due("give", x.give(23, 6), 7);
        due("give on", x.give(23, 0), 6);
        due("give to nobody", x.give(23, 7), 0);
        due("same nobody", x.give(23, 7), NONE);
        due("give back", x.give(23, 6), 7);
        due("same", x.give(23, 6), NONE);
        dueOwners("give", x, "777777777777777777777776");
        due("plot 24", x.give(24, 0), UNKNOWN);
        due("cousin 8", x.give(0, 8), UNKNOWN);
        for (int bad : WRONG) {
            due("give plot", x.give(bad, 0), UNKNOWN);
            due("give cousin", x.give(0, bad), UNKNOWN);
        }
        dueOwners("give wrongly", x, "777777777777777777777776");
        due("history", x.total(9), 4);
    }

    private static void promise8Trade() {
        CousinShares x = owned("01117");
        perform(x, "w0=0990;w1=9000");
        // 0 sees 1 in its own share and 18 in the other; 1 the other way round 0 and 9
        due("why 0 and 1", x.pair(0, 1, 4), 0);
        x.grudge(1, 0, 5);
        due("a grudge at SPITE", x.trade(0, 1), -11);
        due("also the other way round", x.trade(1, 0), -11);
        x.set(1, 6);
        due("first wants not", x.trade(0, 2), -12);
        due("second wants not", x.trade(2, 0), -13);
        due("UNKNOWN", x.trade(7, 0), UNKNOWN);
        due("UNKNOWN other", x.trade(0, 7), UNKNOWN);
        due("UNKNOWN both", x.trade(7, 7), UNKNOWN);
        due("the same", x.trade(4, 4), OUT_OF_RANGE);
        for (int bad : WRONG) {
            due("trade cousin", x.trade(bad, 0), UNKNOWN);
            due("trade other", x.trade(0, bad), UNKNOWN);
        }
        dueOwners("refused trades", x, "011177777777777777777777");
        // then 2 to 6 envy 0 for 3 plots and 1 for one: 5 * (3 + 1)
        due("trade", x.trade(0, 1), 20);
        dueOwners("trade", x, "100077777777777777777777");
        due("envies", x.total(3), 20);
        due("trades", x.total(8), 1);
        due("trade back", x.trade(0, 1), -12);
        due("an equal share is not worth more", owned("01").trade(0, 1), -12);
        x.undo();
        due("trades undone", x.total(8), 0);
        dueOwners("trade undone", x, "011177777777777777777777");
    }

    private static void promise9Settle() {
        CousinShares x = new CousinShares();
        due("nobody trades", x.settle(), NONE);
        due("no history", x.total(9), 0);
        // 0, 1, 2 hold the crops 1, 2, 0 and each wants the one with its number most;
        // 2 does not want the crop 1 of 0, nor 1 the crop 0 of 2, until 0 and 1 have traded
        x = owned("201");
        perform(x, "w0=9040;w1=0940;w2=4490");
        due("pairs", x.total(5), 1);
        int states = x.total(9);
        due("settle", x.settle(), 2);
        dueOwners("settle", x, "012777777777777777777777");
        due("trades", x.total(8), 2);
        due("settle again", x.settle(), NONE);
        due("one change only", x.total(9), states == 4 ? 4 : states + 1);
        x.undo();
        dueOwners("settle undone", x, "201777777777777777777777");
        due("trades undone", x.total(8), 0);
    }

    private static void promise10Type() {
        CousinShares x = new CousinShares();
        for (int length = 1; length <= 60; length++) {
            due("type", x.type((char) (length * 1000)), length);
        }
        due("type the 61st", x.type('d'), FULL);
        due("length", x.total(10), 60);
        due("clear", x.clearText(), 60);
        due("type again", x.type('d'), 1);
        due("no state", x.total(9), 0);
    }

    private static void promise11ClearText() {
        CousinShares x = new CousinShares();
        due("clear nothing", x.clearText(), 0);
        write(x, "d01");
        due("clear", x.clearText(), 3);
        due("length", x.total(10), 0);
        due("perform nothing", x.perform(), -100);
        due("no state", x.total(9), 0);
    }

    private static void promise12Perform() {
        CousinShares x = new CousinShares();
        due("four orders", perform(x, "p9=0120;w6=1234;g06=7;d35"), 4);
        due("p", x.plot(9, 2), 2);
        due("p sets all four", x.plot(9, 0), 0);
        due("w", x.cousin(6, 3), 4);
        due("g", x.pair(0, 6, 0), 7);
        due("not the other way round", x.pair(6, 0, 0), 0);
        due("d", x.cousin(3, 4) + x.cousin(5, 4), 24);
        due("one change", x.total(9), 1);
        due("the text stays", x.total(10), 25);
        due("again, with nothing different", x.perform(), 4);
        due("a change all the same", x.total(9), 2);
        due("orders count one after the other", perform(x, "d0;p0=0000;p0=9999;d1"), 4);
        due("the last one", x.plot(0, 4), 1);
        due("amounts of the last one", x.plot(0, 3), 9);
        due("an error changes nothing", perform(x, "d2;p0=0000;d"), -112);
        due("owner after an error", x.plot(0, 4), 1);
        due("amount after an error", x.plot(0, 3), 9);
        due("history after an error", x.total(9), 3);
        due("trims of an order", perform(x, "w0=1111;w1=1000;p0=1000;d01"), 4);
        due("total(6)", x.total(6), 1);
        due("60 characters", perform(x, "g01=1;g02=1;g03=1;g04=1;g05=1;g06=1;g10=1;g12=1;g13=1;g14=11"), -159);
        due("thirty signs", perform(x, "d0;d1;d2;d3;d4;d5;d6;d0;d1;d2;d3;d4;d5;d6;d0;d1;d2;d3;d4;d5"), 20);
    }

    private static void promise12Faults() {
        String[] right = {"p0=0000", "p9=9999", "p10=0000", "p19=0000", "p20=0000", "p23=0000",
            "w0=0000", "w6=9999", "g06=0", "g60=9", "d0", "d6", "d0123456", "d135"};
        for (String text : right) {
            CousinShares x = new CousinShares();
            due(text, perform(x, text), 1);
            due(text + ";", perform(x, text + ";"), -100 - text.length() - 1);
            due(text + ";d0", perform(x, text + ";d0"), 2);
            due(text + ";;d0", perform(x, text + ";;d0"), -100 - text.length() - 1);
            due(text + "x", perform(x, text + "x"), -100 - text.length());
            due(text + " ;", perform(x, text + " ;"), -100 - text.length());
            due(text + (char) 0x0660, perform(x, text + (char) 0x0660), -100 - text.length());
            // '/' and ':' stand beside the digits in the table of characters
            for (int i = 0; i < text.length(); i++) {
                String ahead = text.substring(0, i);
                due(ahead + "/", perform(x, ahead + "/" + text.substring(i + 1)), -100 - i);
                due(ahead + ":", perform(x, ahead + ":" + text.substring(i + 1)), -100 - i);
            }
            if (text.charAt(0) != 'd') {
                due(text + "0", perform(x, text + "0"), -100 - text.length());
            }
        }
        Object[][] faults = {{"", 0}, {"x", 0}, {";", 0}, {"P0=0000", 0}, {"0", 0}, {" d0", 0},
            {"p", 1}, {"p=", 1}, {"px", 1}, {"p;", 1}, {"p24=0000", 2}, {"p29=0000", 2}, {"p30=0000", 2},
            {"p00=0000", 2}, {"p01=0000", 2}, {"p100=0000", 3}, {"p230=0000", 3}, {"p1", 2}, {"p23", 3},
            {"p0=", 3}, {"p0=1", 4}, {"p0=12", 5}, {"p0=123", 6}, {"p0=12x4", 5}, {"p0=123;", 6}, {"p0==", 3},
            {"w", 1}, {"w7=0000", 1}, {"w00=0000", 2}, {"w0", 2}, {"w0=000", 6}, {"w0=00000", 7},
            {"g", 1}, {"g7", 1}, {"g0", 2}, {"g00=1", 2}, {"g33=1", 2}, {"g07=1", 2}, {"g66=1", 2}, {"g01", 3},
            {"g012", 3}, {"g01=", 4}, {"g01=x", 4}, {"g01=10", 5}, {"g0=1", 2},
            {"d", 1}, {"d;", 1}, {"d7", 1}, {"d00", 2}, {"d10", 2}, {"d0121", 4}, {"d67", 2}, {"d01234567", 8},
            {"d=", 1}, {"d0=", 2}, {"d0;", 3}, {"d0;p0=0000;g1", 13}, {"d0,d1", 2}};
        for (Object[] fault : faults) {
            CousinShares x = new CousinShares();
            due((String) fault[0], perform(x, (String) fault[0]), -100 - (Integer) fault[1]);
        }
    }

    private static void promise13Undo() {
        CousinShares x = new CousinShares();
        due("undo nothing", x.undo(), NONE);
        for (int cousin = 0; cousin < 6; cousin++) {
            x.give(cousin, cousin);
        }
        due("states", x.total(9), 4);
        due("undo", x.undo(), 3);
        dueOwners("undo", x, "012347777777777777777777");
        x.type('d');
        due("undo", x.undo(), 2);
        due("the text stays", x.total(10), 1);
        due("undo", x.undo(), 1);
        due("undo", x.undo(), 0);
        dueOwners("undo all", x, "017777777777777777777777");
        due("undo no more", x.undo(), NONE);
        due("undo forgets what was undone", x.total(9), 0);

        x = new CousinShares();
        perform(x, "w1=1000;g10=6;g01=5;w0=1000");
        x.set(0, 1);
        x.divide(3);
        due("trims", x.total(6), 1);
        due("grudge trims", x.total(7), 1);
        x.undo();
        due("trims undone", x.total(6), 0);
        due("grudge trims undone", x.total(7), 0);
        x.undo();
        due("setting undone", x.total(0), 0);
        x.undo();
        due("weight undone", x.cousin(1, 1), 1);
        due("worth undone", x.plot(1, 6), 1);
        due("grudge undone", x.pair(1, 0, 0), 0);
        x.plant(4, 0, 9);
        x.undo();
        due("amount undone", x.plot(4, 0), 1);
        due("worth undone", x.cousin(0, 6), 24);
    }

    private static void promise14Keep() {
        CousinShares x = owned("06");
        due("keep", x.keep(), 2);
        due("no change", x.total(9), 2);
        x.divide(1);
        due("keep all", x.keep(), 24);
        x.undo();
        due("undo leaves the snapshot", x.restore(), 24);
        due("keep nothing", new CousinShares().keep(), 0);
    }

    private static void promise15Restore() {
        CousinShares x = new CousinShares();
        due("no snapshot", x.restore(), NONE);
        due("no history", x.total(9), 0);
        perform(x, "w1=1000;p0=2000;g01=4;d01");
        x.set(1, 4);
        x.give(0, 7);
        x.keep();
        due("kept", x.total(9), 3);
        perform(x, "w1=2222;p0=0000;g01=0;d2");
        x.set(1, 9);
        write(x, "d01");
        due("restore", x.restore(), 23);
        due("weight", x.cousin(1, 1), 0);
        due("amount", x.plot(0, 0), 2);
        due("grudge", x.pair(0, 1, 0), 4);
        due("setting", x.total(1), 4);
        due("trims", x.total(6), 1);
        due("text", x.total(10), 3);
        due("a change", x.total(9), 4);
        due("restore again", x.restore(), 23);
        due("again a change: undo", x.undo(), 3);
        due("the same state", x.total(2), 1);
        due("undo the first", x.undo(), 2);
        due("ahead of it", x.total(2), 0);
        due("ahead of it, SPITE", x.total(1), 9);
    }

    private static void promise16Plot() {
        CousinShares x = new CousinShares();
        perform(x, "p23=1234;w0=9876;w6=5043");
        x.give(23, 6);
        int[] want = {1, 2, 3, 4, 6, 9 + 16 + 21 + 24, 10, 10, 10, 10, 10, 5 + 12 + 12};
        for (int what = 0; what < want.length; what++) {
            due("plot(23, " + what + ")", x.plot(23, what), want[what]);
        }
        due("plot 24", x.plot(24, 12), UNKNOWN);
        due("what 12", x.plot(0, 12), OUT_OF_RANGE);
        for (int bad : WRONG) {
            due("plot", x.plot(bad, 0), UNKNOWN);
            due("what", x.plot(0, bad), OUT_OF_RANGE);
        }
    }

    private static void promise17Cousin() {
        CousinShares x = owned("0001122");
        perform(x, "w0=1234;g01=3;g02=9;g12=1");
        // 0 has 1 + 2 + 3 of 60; 1 has plots 3, 4: 4 + 1; 2 has plots 5, 6: 2 + 3
        int[] zero = {1, 2, 3, 4, 3, 6, 60, 10, 12, 3, 3, 6, 0};
        // to 0: 1 seems 5 * 13 / 10 = 6, 2 seems 5 * 19 / 10 = 9
        for (int what = 0; what < zero.length; what++) {
            due("cousin(0, " + what + ")", x.cousin(0, what), what == 11 ? 1 + 1 + 3 * 4 : zero[what]);
        }
        int[] one = {1, 1, 1, 1, 2, 2, 24, 8, 1, 1, 1, 8, 1};
        // to 1: 0 seems 3, 2 seems 2 * 11 / 10 = 2; towards 1: none of 0 and 2, 2 each of 3 to 6
        for (int what = 0; what < one.length; what++) {
            due("cousin(1, " + what + ")", x.cousin(1, what), one[what]);
        }
        due("envies of 6", x.cousin(6, 9), 3 + 2 + 2);
        due("greatest envy of 6", x.cousin(6, 10), 3);
        due("envies towards 6", x.cousin(6, 11), 0);
        x.grudge(6, 3, 9);
        x.grudge(5, 3, 9);
        x.set(0, 1);
        int[] places = {0, 3, 4, 5, 6, 1, 2};
        for (int cousin = 0; cousin < 7; cousin++) {
            due("place of " + cousin, x.cousin(cousin, 12), places[cousin]);
        }
        perform(x, "w0=0000");
        due("hundredths of nothing", x.cousin(0, 7), 0);
        x.divide(64);
        due("hundredths of all", x.cousin(6, 7), 100);
        due("cousin 7", x.cousin(7, 13), UNKNOWN);
        due("what 13", x.cousin(0, 13), OUT_OF_RANGE);
        for (int bad : WRONG) {
            due("cousin", x.cousin(bad, 0), UNKNOWN);
            due("what", x.cousin(0, bad), OUT_OF_RANGE);
        }
    }

    private static void promise18Pair() {
        CousinShares x = owned("0111111");
        x.grudge(0, 1, 3);
        int[] want = {3, 6, 7, 6, 3};
        for (int what = 0; what < want.length; what++) {
            due("pair(0, 1, " + what + ")", x.pair(0, 1, what), want[what]);
        }
        int[] back = {0, 1, 1, 0, 2};
        for (int what = 0; what < back.length; what++) {
            due("pair(1, 0, " + what + ")", x.pair(1, 0, what), back[what]);
        }
        x.set(1, 3);
        due("SPITE reached", x.pair(1, 0, 4), 1);
        perform(x, "w1=9000;p0=9000;p1=0900;w0=0900;g01=2");
        due("they do", x.pair(0, 1, 4), 0);
        due("UNKNOWN", x.pair(7, 7, 9), UNKNOWN);
        due("UNKNOWN other", x.pair(0, 7, 9), UNKNOWN);
        due("the same", x.pair(0, 0, 0), OUT_OF_RANGE);
        due("what 5", x.pair(0, 1, 5), OUT_OF_RANGE);
        for (int bad : WRONG) {
            due("cousin", x.pair(bad, 0, 0), UNKNOWN);
            due("other", x.pair(0, bad, 0), UNKNOWN);
            due("what", x.pair(0, 1, bad), OUT_OF_RANGE);
        }
    }

    private static void promise19Total() {
        CousinShares x = owned("01234566");
        // everybody but 6 envies it for one plot
        int[] want = {0, 5, 16, 6, 1, 0, 0, 0, 0, 4, 0};
        for (int what = 0; what < want.length; what++) {
            due("total(" + what + ")", x.total(what), want[what]);
        }
        // 0 cuts at its third plot, 9; 1 at the plot 8
        perform(x, "w1=1000;w0=0100;d01;d01");
        due("trims of two orders", x.total(6), 2);
        perform(x, "w0=1111;w1=1000;d01;d01;g10=9;d01");
        due("trims so far", x.total(6), 5);
        due("grudge trims so far", x.total(7), 0);
        perform(x, "w1=1111;d01");
        due("with one more", x.total(6), 6);
        due("out of a grudge", x.total(7), 1);
        due("text", x.total(10), 11);
        x.ifDivided(3, 0);
        due("ifDivided makes no trims", x.total(6), 6);
        due("total(11)", x.total(11), OUT_OF_RANGE);
        for (int bad : WRONG) {
            due("total", x.total(bad), OUT_OF_RANGE);
        }
        CousinShares y = owned("012345");
        perform(y, "w0=0900;w1=9000;w2=0009;w3=0090");
        due("pairs that would trade", y.total(5), 2);
    }

    private static void promise20IfDivided() {
        CousinShares x = new CousinShares();
        perform(x, "w1=1000;g10=9");
        due("trims", x.ifDivided(3, 0), 1);
        due("out of a grudge", x.ifDivided(3, 1), 0);
        // 1 has nine plots, 0 fifteen: 2 to 6 envy 9 + 15 each; 0 none; to 1: 3 * 19 / 10 - 3
        due("envies", x.ifDivided(3, 2), 5 * 24 + 2);
        due("plot 0", x.ifDivided(3, 3), 1);
        due("last rest", x.ifDivided(3, 4), 0);
        perform(x, "w1=1111");
        due("out of a grudge", x.ifDivided(3, 1), 1);
        due("one alone: plot 0", x.ifDivided(16, 3), 4);
        due("one alone: last rest", x.ifDivided(16, 4), 4);
        perform(x, "w0=0000;w1=0000;w2=0000");
        due("no plots first: plot 0", x.ifDivided(7, 3), 2);
        dueOwners("nothing changes", x, "777777777777777777777777");
        due("no trims", x.total(6), 0);
        due("no change", x.total(9), 3);
        due("what 5", x.ifDivided(1, 5), OUT_OF_RANGE);
        due("cousins 0", x.ifDivided(0, 0), OUT_OF_RANGE);
        due("cousins 128", x.ifDivided(128, 0), OUT_OF_RANGE);
        for (int bad : WRONG) {
            due("cousins", x.ifDivided(bad, 0), OUT_OF_RANGE);
            due("what", x.ifDivided(1, bad), OUT_OF_RANGE);
        }
    }

    private static void promise21BestTrade() {
        CousinShares x = new CousinShares();
        due("nobody", x.bestTrade(0), NONE);
        due("nobody", x.bestTrade(1), NONE);
        due("what 2", x.bestTrade(2), OUT_OF_RANGE);
        for (int bad : WRONG) {
            due("what", x.bestTrade(bad), OUT_OF_RANGE);
        }
        // 5 and 6 lose more envy by a trade than 0 and 1
        x = owned("0177756");
        perform(x, "w0=0200;w1=2000;w5=0090;w6=0900");
        due("pairs", x.total(5), 2);
        due("the best", x.bestTrade(0), 56);
        due("the sum", x.bestTrade(1), settledSum(x, 5, 6));
        due("is less than the other one's", settledSum(x, 0, 1) > settledSum(x, 5, 6) ? 1 : 0, 1);
        dueOwners("nothing changes", x, "017775677777777777777777");
        // of several the lowest first, then the lowest second
        x = owned("0123");
        perform(x, "w0=0909;w1=9090;w2=0909;w3=9090");
        due("the lowest of several", x.bestTrade(0), 1);
        perform(x, "w0=0999;w1=9000;w2=9000;w3=9000");
        due("the lowest second of several", x.bestTrade(0), 1);
    }

    private static int settledSum(CousinShares x, int cousin, int other) {
        int sum = x.trade(cousin, other);
        x.undo();
        return sum;
    }

    private static void promise22BestWithout() {
        CousinShares x = new CousinShares();
        // six alike get four plots each
        due("the lowest of several", x.bestWithout(0), 0);
        due("no envy", x.bestWithout(1), 0);
        // 3 wants the end of the row alone and gets what the others leave
        perform(x, "w3=0001;p23=0009;g30=9;g31=9;g32=9");
        int best = 0;
        int least = Integer.MAX_VALUE;
        for (int cousin = 0; cousin < 7; cousin++) {
            int sum = enviesAmongOthers(x, cousin);
            if (sum < least) {
                least = sum;
                best = cousin;
            }
        }
        due("the cousin", x.bestWithout(0), best);
        due("the sum", x.bestWithout(1), least);
        dueOwners("nothing changes", x, "777777777777777777777777");
        due("what 2", x.bestWithout(2), OUT_OF_RANGE);
        for (int bad : WRONG) {
            due("what", x.bestWithout(bad), OUT_OF_RANGE);
        }
        // the one with a grudge against all is best left out
        CousinShares y = new CousinShares();
        perform(y, "g40=9;g41=9;g42=9;g43=9;g45=9;g46=9");
        y.set(1, 10);
        due("who bears grudges", y.bestWithout(0), 4);
        due("nobody else envies", y.bestWithout(1), 0);
    }

    private static int enviesAmongOthers(CousinShares x, int without) {
        x.divide(127 & ~(1 << without));
        int sum = 0;
        for (int cousin = 0; cousin < 7; cousin++) {
            for (int other = 0; other < 7; other++) {
                if (cousin != other && cousin != without && other != without) {
                    sum += x.pair(cousin, other, 3);
                }
            }
        }
        x.undo();
        return sum;
    }

    public static void main(String[] args) {
        promise1NewObject();
        promise2Plant();
        promise3Weigh();
        promise4Grudge();
        promise5Set();
        promise6Divide();
        promise6Trims();
        promise6Order();
        promise7Give();
        promise8Trade();
        promise9Settle();
        promise10Type();
        promise11ClearText();
        promise12Perform();
        promise12Faults();
        promise13Undo();
        promise14Keep();
        promise15Restore();
        promise16Plot();
        promise17Cousin();
        promise18Pair();
        promise19Total();
        promise20IfDivided();
        promise21BestTrade();
        promise22BestWithout();
        finish();
    }
}
