import java.util.ArrayList;
import java.util.List;

/**
 * The parts 'HISTORY' and 'ERRORS' of the document: which calls are changes and
 * record one state each, what undo and restore bring back, what stays, and that
 * nothing is different after an error, NONE, a refusal or a question.
 */
public final class HistoryTest extends Answers {
    /** Some calls, told by a name. */
    private record Step(String name, Call call) {
    }

    /** An object that has met some calls; made anew for each look, as an object has 512 calls only. */
    private interface Setup {
        CousinShares make();
    }

    private static CousinShares after(Setup setup, Call... calls) {
        CousinShares x = setup.make();
        for (Call call : calls) {
            call.on(x);
        }
        return x;
    }

    /** A full history, a snapshot of another state, a text that divides, plots of six cousins, trims and a trade. */
    private static CousinShares busy() {
        CousinShares x = new CousinShares();
        perform(x, "w1=1000;w2=0100;g05=9;g34=4;d01");
        x.set(0, 1);
        x.keep();
        giveAll(x, "12034");
        x.set(1, 4);
        x.trade(1, 2);
        x.plant(7, 3, 8);
        write(x, "w0=9000;d013");
        return x;
    }

    /** As busy, with a text that is full and faulty, and a history of two states. */
    private static CousinShares fullText() {
        CousinShares x = busy();
        x.undo();
        x.undo();
        write(x, "d6;".repeat(20));
        return x;
    }

    private static final Call UNDO = CousinShares::undo;
    private static final Call RESTORE = CousinShares::restore;
    private static final Call PERFORM = CousinShares::perform;
    private static final Call GIVE = x -> x.give(23, 5) == 5 ? x.give(23, 6) : 0;

    /** What may come to light later of the history, the snapshot and the text. */
    private static final Call[][] SEQUELS = {{}, {UNDO}, {UNDO, UNDO}, {UNDO, UNDO, UNDO}, {UNDO, UNDO, UNDO, UNDO},
        {UNDO, UNDO, UNDO, UNDO, UNDO}, {RESTORE}, {RESTORE, UNDO}, {PERFORM}, {PERFORM, UNDO, UNDO}, {GIVE, GIVE, UNDO}};

    private static void dueNoChange(String name, Setup setup, Call call) {
        for (int i = 0; i < SEQUELS.length; i++) {
            CousinShares x = after(setup, call);
            CousinShares y = setup.make();
            for (Call sequel : SEQUELS[i]) {
                due(name + ": a later answer, sequel " + i, sequel.on(x), sequel.on(y));
            }
            dueText(name + ": the state, sequel " + i, state(x), state(y));
            due(name + ": states, sequel " + i, x.total(9), y.total(9));
            due(name + ": length, sequel " + i, x.total(10), y.total(10));
        }
    }

    private static List<Step> errors() {
        List<Step> steps = new ArrayList<>();
        for (int[] bad : new int[][] {{24, 0, 5}, {-1, 0, 5}, {0, 4, 5}, {0, -1, 5}, {0, 0, 10}, {0, 0, -1}}) {
            steps.add(new Step("plant wrongly", x -> x.plant(bad[0], bad[1], bad[2])));
        }
        for (int[] bad : new int[][] {{7, 0, 5}, {-1, 0, 5}, {0, 4, 5}, {0, -1, 5}, {0, 0, 10}, {0, 0, -1}}) {
            steps.add(new Step("weigh wrongly", x -> x.weigh(bad[0], bad[1], bad[2])));
        }
        for (int[] bad : new int[][] {{7, 0, 5}, {-1, 0, 5}, {0, 7, 5}, {0, -1, 5}, {3, 3, 5}, {0, 1, 10}, {0, 1, -1}}) {
            steps.add(new Step("grudge wrongly", x -> x.grudge(bad[0], bad[1], bad[2])));
        }
        for (int[] bad : new int[][] {{2, 1}, {-1, 1}, {0, 2}, {0, -1}, {1, 0}, {1, 11}}) {
            steps.add(new Step("set wrongly", x -> x.set(bad[0], bad[1])));
        }
        for (int[] bad : new int[][] {{24, 0}, {-1, 0}, {0, 8}, {0, -1}}) {
            steps.add(new Step("give wrongly", x -> x.give(bad[0], bad[1])));
        }
        for (int[] bad : new int[][] {{7, 0}, {-1, 0}, {0, 7}, {0, -1}, {3, 3}}) {
            steps.add(new Step("trade wrongly", x -> x.trade(bad[0], bad[1])));
        }
        for (int bad : new int[] {0, -1, 128, Integer.MIN_VALUE, Integer.MAX_VALUE}) {
            steps.add(new Step("divide wrongly", x -> x.divide(bad)));
            steps.add(new Step("ask wrongly what dividing would bring", x -> x.ifDivided(bad, 0)));
        }
        for (int bad : WRONG) {
            steps.add(new Step("ask wrongly for a plot", x -> x.plot(0, bad) + x.plot(bad, 0)));
            steps.add(new Step("ask wrongly for a cousin", x -> x.cousin(0, bad) + x.cousin(bad, 0)));
            steps.add(new Step("ask wrongly for a pair", x -> x.pair(0, 1, bad) + x.pair(0, bad, 0) + x.pair(bad, 0, 0)));
            steps.add(new Step("ask wrongly for a total", x -> x.total(bad)));
            steps.add(new Step("ask wrongly for the best", x -> x.bestTrade(bad) + x.bestWithout(bad)));
        }
        return steps;
    }

    private static List<Step> questions() {
        List<Step> steps = new ArrayList<>();
        for (int i = 0; i <= 12; i++) {
            int what = i;
            steps.add(new Step("plot " + what, x -> x.plot(7, what)));
            steps.add(new Step("cousin " + what, x -> x.cousin(1, what)));
            steps.add(new Step("pair " + what, x -> x.pair(1, 2, what)));
            steps.add(new Step("total " + what, x -> x.total(what)));
            steps.add(new Step("ifDivided " + what, x -> x.ifDivided(127, what)));
            steps.add(new Step("ifDivided among one " + what, x -> x.ifDivided(64, what)));
            steps.add(new Step("bestTrade " + what, x -> x.bestTrade(what)));
            steps.add(new Step("bestWithout " + what, x -> x.bestWithout(what)));
        }
        return steps;
    }

    private static void checkErrorsChangeNothing() {
        for (Step step : errors()) {
            due(step.name + " is an error", step.call.on(busy()) < 0 ? 1 : 0, 1);
            dueNoChange(step.name, HistoryTest::busy, step.call);
            dueNoChange(step.name, CousinShares::new, step.call);
        }
    }

    private static void checkQuestionsChangeNothing() {
        for (Step step : questions()) {
            dueNoChange(step.name, HistoryTest::busy, step.call);
        }
    }

    private static void dueNone(String name, Setup setup, Call call) {
        due(name, call.on(setup.make()), NONE);
        dueNoChange(name, setup, call);
    }

    private static void checkNoneChangesNothing() {
        dueNone("plant what it is", HistoryTest::busy, x -> x.plant(7, 3, 8));
        dueNone("weigh what it is", HistoryTest::busy, x -> x.weigh(1, 1, 0));
        dueNone("grudge what it is", HistoryTest::busy, x -> x.grudge(0, 5, 9));
        dueNone("set ORDER what it is", HistoryTest::busy, x -> x.set(0, 1));
        dueNone("set SPITE what it is", HistoryTest::busy, x -> x.set(1, 4));
        dueNone("give to whom it belongs", HistoryTest::busy, x -> x.give(3, 3));
        dueNone("give to nobody what is nobody's", CousinShares::new, x -> x.give(3, 7));
        dueNone("settle where nobody would trade", CousinShares::new, CousinShares::settle);
        dueNone("settle what is settled", HistoryTest::settled, CousinShares::settle);
        dueNone("undo nothing", CousinShares::new, CousinShares::undo);
        dueNone("restore nothing", CousinShares::new, CousinShares::restore);
        dueNone("restore nothing with a history", HistoryTest::settled, CousinShares::restore);
        dueNone("the best trade of none", CousinShares::new, x -> x.bestTrade(0));
        dueNone("the sum of the best trade of none", HistoryTest::settled, x -> x.bestTrade(1));
    }

    private static CousinShares settled() {
        CousinShares x = owned("10");
        perform(x, "w0=1000;w1=0100");
        x.settle();
        return x;
    }

    private static CousinShares refusing() {
        CousinShares x = wanted("121", "212", "111");
        giveAll(x, "012");
        x.grudge(0, 3, 5);
        x.grudge(4, 0, 5);
        return x;
    }

    private static void dueRefused(int cousin, int other, int reason) {
        String name = "trade(" + cousin + ", " + other + ")";
        due(name, refusing().trade(cousin, other), CousinShares.REFUSED - reason);
        dueNoChange(name, HistoryTest::refusing, x -> x.trade(cousin, other));
    }

    private static void checkRefusalsChangeNothing() {
        dueRefused(0, 3, 1);
        dueRefused(3, 0, 1);
        dueRefused(0, 4, 1);
        dueRefused(0, 2, 2);
        dueRefused(2, 0, 2);
        dueRefused(1, 2, 3);
        dueRefused(2, 1, 2);
    }

    private static void checkFaultyTextsChangeNothing() {
        due("a full text", fullText().type('d'), FULL);
        dueNoChange("a full text", HistoryTest::fullText, x -> x.type('d'));
        due("a fault", fullText().perform(), FAULT - 60);
        dueNoChange("a fault", HistoryTest::fullText, CousinShares::perform);
        due("an empty text", new CousinShares().perform(), FAULT);
        dueNoChange("an empty text", CousinShares::new, CousinShares::perform);
        dueNoChange("clearing what is empty", CousinShares::new, CousinShares::clearText);
        Setup faulty = () -> {
            CousinShares x = busy();
            write(x, "d0;w0=9999;p0=9999;g01=9;x");
            return x;
        };
        due("orders ahead of a fault", faulty.make().perform(), FAULT - 25);
        dueNoChange("orders ahead of a fault", faulty, CousinShares::perform);
    }

    /** Each method that is described as a change, where it changes something. */
    private static List<Step> changes() {
        List<Step> steps = new ArrayList<>();
        steps.add(new Step("plant", x -> x.plant(7, 3, 7)));
        steps.add(new Step("weigh", x -> x.weigh(1, 0, 3)));
        steps.add(new Step("grudge", x -> x.grudge(6, 5, 3)));
        steps.add(new Step("set ORDER", x -> x.set(0, 0)));
        steps.add(new Step("set SPITE", x -> x.set(1, 9)));
        steps.add(new Step("divide", x -> x.divide(7)));
        steps.add(new Step("divide with trims", x -> x.divide(3)));
        steps.add(new Step("give", x -> x.give(12, 6)));
        steps.add(new Step("trade", x -> x.trade(4, 5)));
        steps.add(new Step("settle", CousinShares::settle));
        steps.add(new Step("perform", CousinShares::perform));
        steps.add(new Step("restore", CousinShares::restore));
        return steps;
    }

    /** As busy, but 4 and 5, and some more, would trade, and dividing among 0 and 1 brings a trim out of a grudge. */
    private static CousinShares ready() {
        CousinShares x = busy();
        perform(x, "w4=9000;w5=0009;w1=1111;g10=9;p0=9000;p3=0009");
        giveAll(x, "5664");
        write(x, "g12=3;d013;p9=1234");
        return x;
    }

    private static void checkEachChangeIsUndone() {
        String before = state(ready());
        for (Step change : changes()) {
            CousinShares x = oneState(ready());
            due(change.name + " refused", change.call.on(x) >= 0 ? 1 : 0, 1);
            due(change.name + ": one state more", x.total(9), 2);
            due(change.name + ": undo", x.undo(), 1);
            dueText(change.name + ": undone", state(x), before);

            x = ready();
            due(change.name + " refused", change.call.on(x) >= 0 ? 1 : 0, 1);
            due(change.name + ": the oldest one is dropped", x.total(9), 4);
            String then = state(after(HistoryTest::ready, change.call));
            due(change.name + " has changed nothing", then.equals(before) ? 1 : 0, 0);
            due(change.name + ": undo", x.undo(), 3);
            dueText(change.name + " undone", state(x), before);

            dueText(change.name + ", undone twice", state(after(HistoryTest::ready, change.call, UNDO, UNDO)),
                state(after(HistoryTest::ready, UNDO)));
            dueText(change.name + ", undone four times", state(after(HistoryTest::ready, change.call, UNDO, UNDO, UNDO, UNDO)),
                state(after(HistoryTest::ready, UNDO, UNDO, UNDO)));
            due(change.name + ", undone five times", after(HistoryTest::ready, change.call, UNDO, UNDO, UNDO, UNDO).undo(), NONE);
        }
    }

    private static void checkSnapshotOfEachChange() {
        Call keep = CousinShares::keep;
        String kept = state(ready());
        for (Step change : changes()) {
            CousinShares x = after(HistoryTest::ready, keep, change.call);
            due(change.name + ": restore", x.restore(), plotsOfCousins(ready()));
            dueText(change.name + ", restored", state(x), kept);
            x = after(HistoryTest::ready, keep, change.call, RESTORE, change.call);
            dueText(change.name + " restored, and again", state(x), state(after(HistoryTest::ready, keep, change.call)));
            x = after(HistoryTest::ready, keep, change.call, RESTORE, change.call, RESTORE);
            dueText(change.name + ", restored twice", state(x), kept);
            x = after(HistoryTest::ready, keep, change.call, RESTORE, UNDO);
            dueText(change.name + ", restored and undone", state(x), state(after(HistoryTest::ready, keep, change.call)));
            x = after(HistoryTest::ready, change.call, keep, UNDO, RESTORE);
            dueText(change.name + ", undone and restored", state(x), state(after(HistoryTest::ready, change.call)));
        }
    }

    /** Each number of the state, not some of each kind alone. */
    private static List<Step> changesOfEachNumber() {
        List<Step> steps = new ArrayList<>();
        for (int i = 0; i < 24 * 4; i++) {
            int at = i;
            steps.add(new Step("amount " + at, x -> x.plant(at / 4, at % 4, 7)));
        }
        for (int i = 0; i < 24; i++) {
            int at = i;
            steps.add(new Step("owner " + at, x -> x.give(at, (at + 1) % 7)));
        }
        for (int i = 0; i < 7 * 4; i++) {
            int at = i;
            steps.add(new Step("weight " + at, x -> x.weigh(at / 4, at % 4, 7)));
        }
        for (int i = 0; i < 7 * 7; i++) {
            int at = i;
            if (at / 7 != at % 7) {
                steps.add(new Step("grudge " + at, x -> x.grudge(at / 7, at % 7, 7)));
            }
        }
        return steps;
    }

    /** The numbers that follow from the state, so far as few calls tell them. */
    private static String consequences(CousinShares x) {
        StringBuilder row = new StringBuilder();
        for (int cousin = 0; cousin < 7; cousin++) {
            for (int what = 4; what <= 12; what++) {
                row.append(x.cousin(cousin, what)).append(' ');
            }
        }
        for (int plot = 0; plot < 24; plot++) {
            row.append(x.plot(plot, 5 + plot % 7)).append(' ');
        }
        return row.append(x.bestTrade(0)).append(' ').append(x.bestWithout(1)).toString();
    }

    private static void checkEachNumberComesBack() {
        Call keep = CousinShares::keep;
        Setup shared = () -> owned("0123456".repeat(3));
        String before = state(shared.make());
        String consequences = consequences(shared.make());
        for (Step step : changesOfEachNumber()) {
            CousinShares x = after(shared, step.call, UNDO);
            dueText(step.name + " undone", state(x), before);
            dueText(step.name + " undone", consequences(x), consequences);
            x = after(shared, keep, step.call, RESTORE);
            dueText(step.name + " restored", state(x), before);
            dueText(step.name + " restored", consequences(x), consequences);
            x = after(shared, step.call, keep, UNDO, RESTORE);
            dueText(step.name + " kept", state(x), state(after(shared, step.call)));
            dueText(step.name + " kept", consequences(x), consequences(after(shared, step.call)));
        }
    }

    private static int plotsOfCousins(CousinShares x) {
        int count = 0;
        for (int plot = 0; plot < 24; plot++) {
            count += x.plot(plot, 4) == 7 ? 0 : 1;
        }
        return count;
    }

    private static void checkLengthOfHistory() {
        for (int changes = 0; changes <= 7; changes++) {
            CousinShares x = new CousinShares();
            for (int plot = 0; plot < changes; plot++) {
                x.give(plot, plot % 7);
                due("states after " + (plot + 1), x.total(9), Math.min(4, plot + 1));
            }
            int states = Math.min(4, changes);
            for (int undone = 1; undone <= states; undone++) {
                due("undo of " + changes, x.undo(), states - undone);
                due("states", x.total(9), states - undone);
                due("plots that are left", 24 - x.total(2), changes - undone);
            }
            due("undo no more of " + changes, x.undo(), NONE);
            due("and no more", x.undo(), NONE);
            due("plots that are left", 24 - x.total(2), changes - states);
        }
    }

    private static void checkUndoBetweenChanges() {
        CousinShares x = owned("01234");
        due("undo", x.undo(), 3);
        due("undo", x.undo(), 2);
        due("another change", x.give(9, 6), 7);
        due("states", x.total(9), 3);
        due("undo that", x.undo(), 2);
        dueOwners("undo goes on from there", x, "012" + "7".repeat(21));
        due("undo", x.undo(), 1);
        dueOwners("undo", x, "01" + "7".repeat(22));
        due("three more", x.give(20, 0) + x.give(21, 0) + x.give(22, 0), 21);
        due("states", x.total(9), 4);
        due("one more", x.give(23, 0), 7);
        due("states", x.total(9), 4);
        due("undo", x.undo(), 3);
        due("undo", x.undo(), 2);
        due("undo", x.undo(), 1);
        due("undo", x.undo(), 0);
        dueOwners("the oldest one was dropped", x, "01" + "7".repeat(22));
        due("no more", x.undo(), NONE);
    }

    private static void checkSnapshot() {
        CousinShares x = new CousinShares();
        due("none at first", x.restore(), NONE);
        x.give(0, 6);
        due("none with a history", x.restore(), NONE);
        due("keep", x.keep(), 1);
        due("keep is no change", x.total(9), 1);
        due("restore what it is", x.restore(), 1);
        due("that is a change all the same", x.total(9), 2);
        giveAll(x, "012");
        due("keep in place of it", x.keep(), 3);
        x.divide(127);
        due("restore the later one", x.restore(), 3);
        dueOwners("the later one", x, "012" + "7".repeat(21));
        due("undo that", x.undo(), 3);
        due("what was ahead of it", x.total(2), 0);
        due("keep all", x.keep(), 24);
        due("restore all", x.restore(), 24);
        due("undo leaves the snapshot", x.undo() + x.undo() + x.undo(), 3 + 2 + 1);
        due("restore all", x.restore(), 24);
        due("keep none", new CousinShares().keep(), 0);
        x = new CousinShares();
        x.keep();
        x.divide(1);
        due("restore none", x.restore(), 0);
    }

    private static void checkTextIsNoState() {
        CousinShares x = new CousinShares();
        due("type", x.type('d'), 1);
        due("type is no change", x.total(9), 0);
        due("keep", x.keep(), 0);
        due("type", x.type('3'), 2);
        due("restore", x.restore(), 0);
        due("restore leaves the text", x.total(10), 2);
        due("perform", x.perform(), 1);
        due("type", x.type(';'), 3);
        due("undo", x.undo(), 1);
        due("undo leaves the text", x.total(10), 3);
        due("the fault of all of it", x.perform(), FAULT - 3);
        due("clear", x.clearText(), 3);
        due("clear is no change", x.total(9), 1);
        due("undo", x.undo(), 0);
        due("undo does not bring it back", x.total(10), 0);
    }

    private static void checkManyStepsOfOneChange() {
        Setup cycle = () -> {
            CousinShares x = owned("201");
            perform(x, "w0=9040;w1=0940;w2=4490");
            write(x, "d01;d12;w0=9999");
            return oneState(x);
        };
        CousinShares x = cycle.make();
        due("states", x.total(9), 1);
        due("settle by two trades", x.settle(), 2);
        due("one state more", x.total(9), 2);
        due("undo", x.undo(), 1);
        dueOwners("both trades undone", x, "201" + "7".repeat(21));
        due("trades undone", x.total(8), 0);
        due("perform three orders", x.perform(), 3);
        due("one state more", x.total(9), 2);
        due("undo", x.undo(), 1);
        dueText("all orders undone", state(x), state(cycle.make()));
    }

    /** The same state with one state alone in the history, and the snapshot the same. */
    private static CousinShares oneState(CousinShares x) {
        x.keep();
        for (int i = 0; i < 4; i++) {
            x.undo();
        }
        x.restore();
        return x;
    }

    private static void checkObjectsDoNotMeet() {
        CousinShares x = new CousinShares();
        CousinShares y = new CousinShares();
        String first = state(new CousinShares());
        perform(x, "p0=9999;w0=9999;g01=9;d0123456");
        x.set(1, 1);
        x.keep();
        dueText("another object", state(y), first);
        due("its history", y.undo(), NONE);
        due("its snapshot", y.restore(), NONE);
        due("its text", y.clearText(), 0);
        dueText("an object made later", state(new CousinShares()), first);
    }

    public static void main(String[] args) {
        checkErrorsChangeNothing();
        checkQuestionsChangeNothing();
        checkNoneChangesNothing();
        checkRefusalsChangeNothing();
        checkFaultyTextsChangeNothing();
        checkEachChangeIsUndone();
        checkSnapshotOfEachChange();
        checkEachNumberComesBack();
        checkLengthOfHistory();
        checkUndoBetweenChanges();
        checkSnapshot();
        checkTextIsNoState();
        checkManyStepsOfOneChange();
        checkObjectsDoNotMeet();
        finish();
    }
}
