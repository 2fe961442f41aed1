import java.util.ArrayDeque;
import java.util.ArrayList;
import java.util.Deque;
import java.util.List;
import java.util.Random;
import java.util.regex.Matcher;
import java.util.regex.Pattern;

/**
 * Long runs of calls with a fixed seed, each answer beside that of a second
 * program, which is written plainly from the document and shares no code.
 */
public final class OracleTest {
    private static final int RUNS = 4000;
    private static final int CALLS = 512;
    private static final int LONGEST_WRITE = 110;

    /** What the document calls the state. */
    private static final class State implements Cloneable {
        int[][] amounts = new int[24][4];
        int[][] weights = new int[7][4];
        int[][] grudges = new int[7][7];
        int[] owner = new int[24];
        int order = 0;
        int spite = 5;
        int trims;
        int spiteTrims;
        int trades;

        State copy() {
            try {
                State s = (State) clone();
                s.amounts = deep(amounts);
                s.weights = deep(weights);
                s.grudges = deep(grudges);
                s.owner = owner.clone();
                return s;
            } catch (CloneNotSupportedException e) {
                throw new IllegalStateException(e);
            }
        }

        static int[][] deep(int[][] rows) {
            int[][] copy = new int[rows.length][];
            for (int i = 0; i < rows.length; i++) {
                copy[i] = rows[i].clone();
            }
            return copy;
        }

        int worth(int c, List<Integer> plots) {
            int sum = 0;
            for (int p : plots) {
                for (int k = 0; k < 4; k++) {
                    sum += amounts[p][k] * weights[c][k];
                }
            }
            return sum;
        }

        List<Integer> share(int c) {
            List<Integer> plots = new ArrayList<>();
            for (int p = 0; p < 24; p++) {
                if (owner[p] == c) {
                    plots.add(p);
                }
            }
            return plots;
        }

        int seems(int c, int d) {
            return worth(c, share(d)) * (10 + grudges[c][d]) / 10;
        }

        int envy(int c, int d) {
            return c == d ? 0 : Math.max(seems(c, d) - worth(c, share(c)), 0);
        }

        int envies(List<Integer> who) {
            int sum = 0;
            for (int c : who) {
                for (int d : who) {
                    sum += envy(c, d);
                }
            }
            return sum;
        }

        int grudgeSum(int c) {
            int sum = 0;
            for (int d = 0; d < 7; d++) {
                sum += c == d ? 0 : grudges[c][d];
            }
            return sum;
        }

        List<Integer> byOrder() {
            List<Integer> all = all();
            if (order == 1) {
                all.sort((a, b) -> grudgeSum(a) != grudgeSum(b) ? grudgeSum(b) - grudgeSum(a) : a - b);
            }
            return all;
        }

        List<Integer> fair(int c, List<Integer> rest, int n) {
            for (int size = 0; size <= rest.size(); size++) {
                if (worth(c, rest.subList(0, size)) * n >= worth(c, rest)) {
                    return rest.subList(0, size);
                }
            }
            throw new IllegalStateException();
        }

        /** Divides; the answer is the cousin with the last rest. */
        int divide(List<Integer> party) {
            List<Integer> left = byOrder();
            left.retainAll(party);
            List<Integer> rest = new ArrayList<>();
            for (int p = 0; p < 24; p++) {
                owner[p] = 7;
                rest.add(p);
            }
            while (left.size() > 1) {
                int holder = left.get(0);
                int size = fair(holder, rest, left.size()).size();
                for (int c : left.subList(1, left.size())) {
                    int own = fair(c, rest, left.size()).size();
                    if (own < size) {
                        holder = c;
                        size = own;
                        trims++;
                    } else if (own == size && size >= 1 && grudges[c][holder] >= spite) {
                        holder = c;
                        size--;
                        trims++;
                        spiteTrims++;
                    }
                }
                for (int p : rest.subList(0, size)) {
                    owner[p] = holder;
                }
                rest = rest.subList(size, rest.size());
                left.remove(Integer.valueOf(holder));
            }
            for (int p : rest) {
                owner[p] = left.get(0);
            }
            return left.get(0);
        }

        int why(int a, int b) {
            if (grudges[a][b] >= spite || grudges[b][a] >= spite) {
                return 1;
            }
            if (worth(a, share(b)) <= worth(a, share(a))) {
                return 2;
            }
            return worth(b, share(a)) <= worth(b, share(b)) ? 3 : 0;
        }

        void swap(int a, int b) {
            List<Integer> ofA = share(a);
            List<Integer> ofB = share(b);
            ofA.forEach(p -> owner[p] = b);
            ofB.forEach(p -> owner[p] = a);
            trades++;
        }

        /** First, second, sum; null if nobody would trade. */
        int[] best() {
            int[] best = null;
            for (int a = 0; a < 7; a++) {
                for (int b = a + 1; b < 7; b++) {
                    if (why(a, b) == 0) {
                        State then = copy();
                        then.swap(a, b);
                        int sum = then.envies(all());
                        if (best == null || sum < best[2]) {
                            best = new int[] {a, b, sum};
                        }
                    }
                }
            }
            return best;
        }
    }

    private static List<Integer> all() {
        return party(127);
    }

    private static List<Integer> party(int set) {
        List<Integer> cousins = new ArrayList<>();
        for (int c = 0; c < 7; c++) {
            if ((set >> c) % 2 == 1) {
                cousins.add(c);
            }
        }
        return cousins;
    }

    private static final Pattern TEXT = pattern();

    private static Pattern pattern() {
        String plot = "(?:[03-9]|1[0-9]?|2[0-3]?)";
        String pairs = "(?:0[1-6]|1[02-6]|2[013-6]|3[0124-6]|4[0-356]|5[0-46]|6[0-5])";
        String sets = "(?:0?1?2?3?4?5?6|0?1?2?3?4?5|0?1?2?3?4|0?1?2?3|0?1?2|0?1|0)";
        String order = "(?:p" + plot + "=[0-9]{4}|w[0-6]=[0-9]{4}|g" + pairs + "=[0-9]|d" + sets + ")";
        return Pattern.compile(order + "(?:;" + order + ")*");
    }

    /** -1 if the text has no fault. */
    private static int fault(String text) {
        if (TEXT.matcher(text).matches()) {
            return -1;
        }
        for (int i = 0; i < text.length(); i++) {
            Matcher m = TEXT.matcher(text.substring(0, i + 1));
            if (!m.matches() && !m.hitEnd()) {
                return i;
            }
        }
        return text.length();
    }

    /** The second program: the same methods, from the document. */
    private static final class Oracle {
        State s = new State();
        String text = "";
        State snapshot = null;
        Deque<State> history = new ArrayDeque<>();

        Oracle() {
            for (int p = 0; p < 24; p++) {
                s.amounts[p][p % 4] = 1;
                s.owner[p] = 7;
            }
            for (int[] row : s.weights) {
                java.util.Arrays.fill(row, 1);
            }
        }

        static boolean in(int x, int low, int high) {
            return x >= low && x <= high;
        }

        void change() {
            history.addLast(s.copy());
            if (history.size() > 4) {
                history.removeFirst();
            }
        }

        int put(int[][] rows, int i, int k, int value) {
            int before = rows[i][k];
            if (before == value) {
                return -5;
            }
            change();
            rows[i][k] = value;
            return before;
        }

        int plant(int p, int k, int a) {
            return !in(p, 0, 23) || !in(k, 0, 3) ? -1 : !in(a, 0, 9) ? -2 : put(s.amounts, p, k, a);
        }

        int weigh(int c, int k, int w) {
            return !in(c, 0, 6) || !in(k, 0, 3) ? -1 : !in(w, 0, 9) ? -2 : put(s.weights, c, k, w);
        }

        int grudge(int c, int d, int g) {
            return !in(c, 0, 6) || !in(d, 0, 6) ? -1 : c == d || !in(g, 0, 9) ? -2 : put(s.grudges, c, d, g);
        }

        int set(int setting, int value) {
            if (setting == 0) {
                if (!in(value, 0, 1)) {
                    return -2;
                }
                int before = s.order;
                if (before == value) {
                    return -5;
                }
                change();
                s.order = value;
                return before;
            }
            if (setting == 1) {
                if (!in(value, 1, 10)) {
                    return -2;
                }
                int before = s.spite;
                if (before == value) {
                    return -5;
                }
                change();
                s.spite = value;
                return before;
            }
            return -1;
        }

        int divide(int set) {
            if (!in(set, 1, 127)) {
                return -2;
            }
            change();
            int before = s.trims;
            s.divide(party(set));
            return s.trims - before;
        }

        int give(int p, int c) {
            if (!in(p, 0, 23) || !in(c, 0, 7)) {
                return -1;
            }
            int before = s.owner[p];
            if (before == c) {
                return -5;
            }
            change();
            s.owner[p] = c;
            return before;
        }

        int trade(int c, int d) {
            if (!in(c, 0, 6) || !in(d, 0, 6)) {
                return -1;
            }
            if (c == d) {
                return -2;
            }
            if (s.why(c, d) > 0) {
                return -10 - s.why(c, d);
            }
            change();
            s.swap(c, d);
            return s.envies(all());
        }

        int settle() {
            int[] best = s.best();
            if (best == null) {
                return -5;
            }
            change();
            int count = 0;
            while (best != null) {
                s.swap(best[0], best[1]);
                count++;
                best = s.best();
            }
            return count;
        }

        int type(char c) {
            if (text.length() == 60) {
                return -3;
            }
            text += c;
            return text.length();
        }

        int clearText() {
            int before = text.length();
            text = "";
            return before;
        }

        int perform() {
            int fault = fault(text);
            if (fault >= 0) {
                return -100 - fault;
            }
            change();
            String[] orders = text.split(";");
            for (String order : orders) {
                perform(order);
            }
            return orders.length;
        }

        void perform(String order) {
            String[] sides = order.substring(1).split("=");
            switch (order.charAt(0)) {
                case 'p':
                    for (int k = 0; k < 4; k++) {
                        s.amounts[Integer.parseInt(sides[0])][k] = sides[1].charAt(k) - '0';
                    }
                    break;
                case 'w':
                    for (int k = 0; k < 4; k++) {
                        s.weights[Integer.parseInt(sides[0])][k] = sides[1].charAt(k) - '0';
                    }
                    break;
                case 'g':
                    s.grudges[sides[0].charAt(0) - '0'][sides[0].charAt(1) - '0'] = Integer.parseInt(sides[1]);
                    break;
                default:
                    List<Integer> party = new ArrayList<>();
                    for (char c : sides[0].toCharArray()) {
                        party.add(c - '0');
                    }
                    s.divide(party);
            }
        }

        int undo() {
            if (history.isEmpty()) {
                return -5;
            }
            s = history.removeLast();
            return history.size();
        }

        int keep() {
            snapshot = s.copy();
            return 24 - s.share(7).size();
        }

        int restore() {
            if (snapshot == null) {
                return -5;
            }
            change();
            s = snapshot.copy();
            return 24 - s.share(7).size();
        }

        int plot(int p, int what) {
            if (!in(p, 0, 23)) {
                return -1;
            }
            if (!in(what, 0, 11)) {
                return -2;
            }
            return what < 4 ? s.amounts[p][what] : what == 4 ? s.owner[p] : s.worth(what - 5, List.of(p));
        }

        int cousin(int c, int what) {
            if (!in(c, 0, 6)) {
                return -1;
            }
            List<Integer> everything = new ArrayList<>();
            for (int p = 0; p < 24; p++) {
                everything.add(p);
            }
            int own = s.worth(c, s.share(c));
            int whole = s.worth(c, everything);
            int sum = 0;
            int greatest = 0;
            int towards = 0;
            for (int d = 0; d < 7; d++) {
                sum += s.envy(c, d);
                greatest = Math.max(greatest, s.envy(c, d));
                towards += s.envy(d, c);
            }
            switch (what) {
                case 0: case 1: case 2: case 3: return s.weights[c][what];
                case 4: return s.share(c).size();
                case 5: return own;
                case 6: return whole;
                case 7: return whole == 0 ? 0 : 100 * own / whole;
                case 8: return s.grudgeSum(c);
                case 9: return sum;
                case 10: return greatest;
                case 11: return towards;
                case 12: return s.byOrder().indexOf(c);
                default: return -2;
            }
        }

        int pair(int c, int d, int what) {
            if (!in(c, 0, 6) || !in(d, 0, 6)) {
                return -1;
            }
            if (c == d) {
                return -2;
            }
            switch (what) {
                case 0: return s.grudges[c][d];
                case 1: return s.worth(c, s.share(d));
                case 2: return s.seems(c, d);
                case 3: return s.envy(c, d);
                case 4: return s.why(c, d);
                default: return -2;
            }
        }

        int total(int what) {
            int content = 0;
            int pairs = 0;
            for (int c = 0; c < 7; c++) {
                boolean envies = false;
                for (int d = 0; d < 7; d++) {
                    envies |= s.envy(c, d) > 0;
                    pairs += c < d && s.why(c, d) == 0 ? 1 : 0;
                }
                content += envies ? 0 : 1;
            }
            switch (what) {
                case 0: return s.order;
                case 1: return s.spite;
                case 2: return s.share(7).size();
                case 3: return s.envies(all());
                case 4: return content;
                case 5: return pairs;
                case 6: return s.trims;
                case 7: return s.spiteTrims;
                case 8: return s.trades;
                case 9: return history.size();
                case 10: return text.length();
                default: return -2;
            }
        }

        int ifDivided(int set, int what) {
            if (!in(set, 1, 127) || !in(what, 0, 4)) {
                return -2;
            }
            State then = s.copy();
            int last = then.divide(party(set));
            int[] answers = {then.trims - s.trims, then.spiteTrims - s.spiteTrims,
                then.envies(all()), then.owner[0], last};
            return answers[what];
        }

        int bestTrade(int what) {
            if (!in(what, 0, 1)) {
                return -2;
            }
            int[] best = s.best();
            return best == null ? -5 : what == 0 ? best[0] * 10 + best[1] : best[2];
        }

        int bestWithout(int what) {
            if (!in(what, 0, 1)) {
                return -2;
            }
            int least = Integer.MAX_VALUE;
            int who = -1;
            for (int c = 0; c < 7; c++) {
                List<Integer> others = all();
                others.remove(Integer.valueOf(c));
                State then = s.copy();
                then.divide(others);
                if (then.envies(others) < least) {
                    least = then.envies(others);
                    who = c;
                }
            }
            return what == 0 ? who : least;
        }
    }

    private static final int METHODS = 22;

    /** Mostly a number in the range, seldom one beside it or far away. */
    private static int pick(Random random, int low, int high) {
        int dice = random.nextInt(60);
        if (dice == 0) {
            return low - 1;
        }
        if (dice == 1) {
            return high + 1;
        }
        if (dice == 2) {
            return random.nextBoolean() ? Integer.MIN_VALUE : Integer.MAX_VALUE;
        }
        return low + random.nextInt(high - low + 1);
    }

    private static String digits(Random random, int count) {
        StringBuilder row = new StringBuilder();
        for (int i = 0; i < count; i++) {
            row.append(random.nextInt(3) == 0 ? 0 : random.nextInt(10));
        }
        return row.toString();
    }

    private static String order(Random random) {
        switch (random.nextInt(5)) {
            case 0: return "p" + random.nextInt(24) + "=" + digits(random, 4);
            case 1: return "w" + random.nextInt(7) + "=" + digits(random, 4);
            case 2: return "g" + random.nextInt(7) + random.nextInt(7) + "=" + digits(random, 1);
            case 3: return "g" + random.nextInt(3) + (3 + random.nextInt(4)) + "=" + digits(random, 1);
            default:
                StringBuilder row = new StringBuilder("d");
                for (int c : party(1 + random.nextInt(127))) {
                    row.append(c);
                }
                return row.toString();
        }
    }

    private static String text(Random random) {
        StringBuilder text = new StringBuilder(order(random));
        while (random.nextInt(3) > 0 && text.length() < 90) {
            text.append(';').append(order(random));
        }
        while (random.nextInt(3) == 0) {
            String signs = "pwgd=;0123456789/:";
            int at = random.nextInt(text.length() + 1);
            char sign = random.nextInt(9) == 0 ? (char) random.nextInt(65536) : signs.charAt(random.nextInt(18));
            if (random.nextBoolean() && at < text.length()) {
                text.deleteCharAt(at);
            } else {
                text.insert(at, sign);
            }
        }
        return text.toString();
    }

    private static int wrong = 0;
    private static int calls = 0;

    private static void due(int run, String call, int got, int want) {
        calls++;
        if (got != want) {
            wrong++;
            if (wrong < 20) {
                System.out.println("run " + run + ", " + call + " answered " + got + ", due is " + want);
            }
        }
    }

    private static void write(int run, CousinShares x, Oracle o, String text) {
        due(run, "clearText", x.clearText(), o.clearText());
        for (char c : text.toCharArray()) {
            due(run, "type", x.type(c), o.type(c));
        }
        due(run, "perform " + text, x.perform(), o.perform());
    }

    private static void step(int run, CousinShares x, Oracle o, Random random) {
        int p = pick(random, 0, 23);
        int c = pick(random, 0, 6);
        int d = pick(random, 0, 6);
        int k = pick(random, 0, 3);
        int v = pick(random, 0, 9);
        int set = pick(random, 1, 127);
        int what;
        switch (random.nextInt(METHODS)) {
            case 0: due(run, "plant", x.plant(p, k, v), o.plant(p, k, v)); break;
            case 1: due(run, "weigh", x.weigh(c, k, v), o.weigh(c, k, v)); break;
            case 2: due(run, "grudge", x.grudge(c, d, v), o.grudge(c, d, v)); break;
            case 3:
                int setting = pick(random, 0, 1);
                int value = setting == 0 ? pick(random, 0, 1) : pick(random, 1, 10);
                due(run, "set", x.set(setting, value), o.set(setting, value));
                break;
            case 4: due(run, "divide " + set, x.divide(set), o.divide(set)); break;
            case 5: case 6:
                int owner = pick(random, 0, 7);
                due(run, "give", x.give(p, owner), o.give(p, owner));
                break;
            case 7: due(run, "trade", x.trade(c, d), o.trade(c, d)); break;
            case 8: due(run, "settle", x.settle(), o.settle()); break;
            case 9: due(run, "type", x.type('0'), o.type('0')); break;
            case 10: due(run, "perform", x.perform(), o.perform()); break;
            case 11: due(run, "undo", x.undo(), o.undo()); break;
            case 12:
                if (random.nextInt(4) == 0) {
                    due(run, "keep", x.keep(), o.keep());
                }
                break;
            case 13:
                if (random.nextInt(4) == 0) {
                    due(run, "restore", x.restore(), o.restore());
                }
                break;
            case 14:
                what = pick(random, 0, 11);
                due(run, "plot " + what, x.plot(p, what), o.plot(p, what));
                break;
            case 15:
                what = pick(random, 0, 12);
                due(run, "cousin " + what, x.cousin(c, what), o.cousin(c, what));
                break;
            case 16:
                what = pick(random, 0, 4);
                due(run, "pair " + what, x.pair(c, d, what), o.pair(c, d, what));
                break;
            case 17: case 18:
                what = pick(random, 0, 10);
                due(run, "total " + what, x.total(what), o.total(what));
                break;
            case 19:
                what = pick(random, 0, 4);
                due(run, "ifDivided " + set + " " + what, x.ifDivided(set, what), o.ifDivided(set, what));
                break;
            case 20:
                what = pick(random, 0, 1);
                due(run, "bestTrade " + what, x.bestTrade(what), o.bestTrade(what));
                break;
            default:
                what = pick(random, 0, 1);
                due(run, "bestWithout " + what, x.bestWithout(what), o.bestWithout(what));
                break;
        }
    }

    private static final int LOOKS = 24 * 6 + 7 * 13 + 42 * 2 + 11;

    private static void lookAtAll(int run, CousinShares x, Oracle o) {
        for (int p = 0; p < 24; p++) {
            for (int what = 0; what <= 5; what++) {
                due(run, "at last plot", x.plot(p, what), o.plot(p, what));
            }
        }
        for (int c = 0; c < 7; c++) {
            for (int what = 0; what <= 12; what++) {
                due(run, "at last cousin", x.cousin(c, what), o.cousin(c, what));
            }
            for (int d = 0; d < 7; d++) {
                if (c != d) {
                    due(run, "at last pair", x.pair(c, d, 2), o.pair(c, d, 2));
                    due(run, "at last pair", x.pair(c, d, 4), o.pair(c, d, 4));
                }
            }
        }
        for (int what = 0; what <= 10; what++) {
            due(run, "at last total", x.total(what), o.total(what));
        }
    }

    /** Every other run keeps calls for a look at the whole state in the end. */
    private static void run(int run) {
        Random random = new Random(run);
        CousinShares x = new CousinShares();
        Oracle o = new Oracle();
        int end = calls + CALLS - (run % 2 == 0 ? LOOKS : 0);
        for (int i = random.nextInt(4); i > 0 && calls < end - LONGEST_WRITE; i--) {
            write(run, x, o, text(random));
        }
        while (calls < end) {
            if (random.nextInt(60) == 0 && calls < end - LONGEST_WRITE) {
                write(run, x, o, text(random));
            } else {
                step(run, x, o, random);
            }
        }
        if (run % 2 == 0) {
            lookAtAll(run, x, o);
        }
    }

    public static void main(String[] args) {
        for (int run = 0; run < RUNS && wrong == 0; run++) {
            run(run);
        }
        System.out.println(calls + " calls, " + wrong + " answers not as due");
        if (wrong != 0) {
            System.exit(1);
        }
    }
}
