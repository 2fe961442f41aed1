/** A harvest that cousins with grudges divide, envy one another for, and trade. */
public final class CousinShares {
    public static final int UNKNOWN = -1;
    public static final int OUT_OF_RANGE = -2;
    public static final int FULL = -3;
    public static final int NONE = -5;
    public static final int REFUSED = -10;

    private static final int PLOTS = 24;
    private static final int CROPS = 4;
    private static final int COUSINS = 7;
    private static final int EVERYBODY = (1 << COUSINS) - 1;
    private static final int NOBODY = COUSINS;
    private static final int GREATEST_DIGIT = 9;

    private static final int SETTINGS = 2;
    private static final int ORDER = 0;
    private static final int SPITE = 1;
    private static final int FIRST_SPITE = 5;
    private static final int GREATEST_SPITE = 10;

    private static final int HISTORY_STATES = 4;
    private static final int LONGEST_TEXT = 60;
    private static final int FAULT = -100;

    private static final int PLANTING = 0;
    private static final int WEIGHING = 1;
    private static final int GRUDGING = 2;
    private static final int DIVIDING = 3;

    /*
     * Every trade gives two cousins a share that each likes better than the
     * one before, out of the same seven shares: so 21 trades are the most,
     * and this bound is never reached.
     */
    private static final int TRADE_BOUND = 1000;

    private final Harvest now;
    private final Division division;
    private final Shares shares;
    private final OrderText text;
    private final History history;
    private final Harvest snapshot;
    private boolean hasSnapshot;

    public CousinShares() {
        now = new Harvest();
        division = new Division(now);
        shares = new Shares(now);
        text = new OrderText();
        history = new History();
        snapshot = new Harvest();
        hasSnapshot = false;
    }

    // ---- changes

    public int plant(int plot, int crop, int amount) {
        if (!isPlot(plot) || !isCrop(crop)) {
            return UNKNOWN;
        }
        if (!isDigit(amount)) {
            return OUT_OF_RANGE;
        }
        int previous = now.amounts[plot * CROPS + crop];
        if (previous == amount) {
            return NONE;
        }
        history.record(now);
        now.putAmount(plot, crop, amount);
        return previous;
    }

    public int weigh(int cousin, int crop, int weight) {
        if (!isCousin(cousin) || !isCrop(crop)) {
            return UNKNOWN;
        }
        if (!isDigit(weight)) {
            return OUT_OF_RANGE;
        }
        int previous = now.weights[cousin * CROPS + crop];
        if (previous == weight) {
            return NONE;
        }
        history.record(now);
        now.putWeight(cousin, crop, weight);
        return previous;
    }

    public int grudge(int cousin, int other, int grudge) {
        if (!isCousin(cousin) || !isCousin(other)) {
            return UNKNOWN;
        }
        if (cousin == other || !isDigit(grudge)) {
            return OUT_OF_RANGE;
        }
        int previous = now.grudgeOf(cousin, other);
        if (previous == grudge) {
            return NONE;
        }
        history.record(now);
        now.putGrudge(cousin, other, grudge);
        return previous;
    }

    public int set(int setting, int value) {
        if (setting < 0 || setting >= SETTINGS) {
            return UNKNOWN;
        }
        if (!isSettingValue(setting, value)) {
            return OUT_OF_RANGE;
        }
        int previous = now.settings[setting];
        if (previous == value) {
            return NONE;
        }
        history.record(now);
        now.settings[setting] = value;
        return previous;
    }

    public int divide(int cousins) {
        if (!isParty(cousins)) {
            return OUT_OF_RANGE;
        }
        history.record(now);
        divideNow(cousins);
        return division.trims;
    }

    public int give(int plot, int cousin) {
        if (!isPlot(plot) || !(isCousin(cousin) || cousin == NOBODY)) {
            return UNKNOWN;
        }
        int previous = now.owners[plot];
        if (previous == cousin) {
            return NONE;
        }
        history.record(now);
        now.owners[plot] = cousin;
        return previous;
    }

    public int trade(int cousin, int other) {
        if (!isCousin(cousin) || !isCousin(other)) {
            return UNKNOWN;
        }
        if (cousin == other) {
            return OUT_OF_RANGE;
        }
        shares.measure(now.owners);
        int reason = shares.whyNoTrade(cousin, other);
        if (reason != 0) {
            return REFUSED - reason;
        }
        history.record(now);
        tradeNow(cousin, other);
        return shares.enviesAmong(EVERYBODY);
    }

    public int settle() {
        shares.measure(now.owners);
        if (!shares.findBestTrade()) {
            return NONE;
        }
        history.record(now);
        int trades = 0;
        do {
            tradeNow(shares.bestFirst, shares.bestSecond);
            trades++;
        } while (trades < TRADE_BOUND && shares.findBestTrade());
        return trades;
    }

    // ---- texts

    public int type(char character) {
        if (text.length >= LONGEST_TEXT) {
            return FULL;
        }
        text.append(character);
        return text.length;
    }

    public int clearText() {
        int previous = text.length;
        text.length = 0;
        return previous;
    }

    public int perform() {
        int orders = text.countOrders();
        if (orders == 0) {
            return FAULT - text.at;
        }
        history.record(now);
        text.at = 0;
        for (int i = 0; i < orders; i++) {
            if (text.readOrder()) {
                carryOutOrder();
            }
            text.readSign(';');
        }
        return orders;
    }

    // ---- history

    public int undo() {
        if (history.count == 0) {
            return NONE;
        }
        history.takeLatest(now);
        return history.count;
    }

    public int keep() {
        snapshot.copyFrom(now);
        hasSnapshot = true;
        return PLOTS - now.plotsOf(NOBODY);
    }

    public int restore() {
        if (!hasSnapshot) {
            return NONE;
        }
        history.record(now);
        now.copyFrom(snapshot);
        return PLOTS - now.plotsOf(NOBODY);
    }

    // ---- what there is

    public int plot(int plot, int what) {
        if (!isPlot(plot)) {
            return UNKNOWN;
        }
        if (what < 0 || what > CROPS + COUSINS) {
            return OUT_OF_RANGE;
        }
        if (what < CROPS) {
            return now.amounts[plot * CROPS + what];
        }
        if (what == CROPS) {
            return now.owners[plot];
        }
        return now.worthOf(plot, what - CROPS - 1);
    }

    public int cousin(int cousin, int what) {
        if (!isCousin(cousin)) {
            return UNKNOWN;
        }
        if (what < 0 || what > 12) {
            return OUT_OF_RANGE;
        }
        if (what < CROPS) {
            return now.weights[cousin * CROPS + what];
        }
        shares.measure(now.owners);
        switch (what) {
            case 4:
                return now.plotsOf(cousin);
            case 5:
                return shares.worthOf(cousin, cousin);
            case 6:
                return now.worthFrom(0, cousin);
            case 7:
                return hundredths(shares.worthOf(cousin, cousin), now.worthFrom(0, cousin));
            case 8:
                return now.grudgesOf(cousin);
            case 9:
                return shares.enviesOf(cousin, EVERYBODY);
            case 10:
                return shares.greatestEnvyOf(cousin);
            case 11:
                return shares.enviesTowards(cousin);
            default:
                return now.placeOf(cousin);
        }
    }

    public int pair(int cousin, int other, int what) {
        if (!isCousin(cousin) || !isCousin(other)) {
            return UNKNOWN;
        }
        if (cousin == other || what < 0 || what > 4) {
            return OUT_OF_RANGE;
        }
        shares.measure(now.owners);
        switch (what) {
            case 0:
                return now.grudgeOf(cousin, other);
            case 1:
                return shares.worthOf(cousin, other);
            case 2:
                return shares.seeming(cousin, other);
            case 3:
                return shares.envy(cousin, other);
            default:
                return shares.whyNoTrade(cousin, other);
        }
    }

    public int total(int what) {
        if (what < 0 || what > 10) {
            return OUT_OF_RANGE;
        }
        shares.measure(now.owners);
        switch (what) {
            case 0:
                return now.settings[ORDER];
            case 1:
                return now.settings[SPITE];
            case 2:
                return now.plotsOf(NOBODY);
            case 3:
                return shares.enviesAmong(EVERYBODY);
            case 4:
                return shares.contentCousins();
            case 5:
                return shares.tradingPairs();
            case 6:
                return now.trims;
            case 7:
                return now.grudgeTrims;
            case 8:
                return now.trades;
            case 9:
                return history.count;
            default:
                return text.length;
        }
    }

    // ---- what would be; nothing changes

    public int ifDivided(int cousins, int what) {
        if (!isParty(cousins) || what < 0 || what > 4) {
            return OUT_OF_RANGE;
        }
        division.run(cousins);
        switch (what) {
            case 0:
                return division.trims;
            case 1:
                return division.grudgeTrims;
            case 2:
                shares.measure(division.owners);
                return shares.enviesAmong(EVERYBODY);
            case 3:
                return division.owners[0];
            default:
                return division.lastCousin;
        }
    }

    public int bestTrade(int what) {
        if (what < 0 || what > 1) {
            return OUT_OF_RANGE;
        }
        shares.measure(now.owners);
        if (!shares.findBestTrade()) {
            return NONE;
        }
        return what == 0 ? 10 * shares.bestFirst + shares.bestSecond : shares.bestSum;
    }

    public int bestWithout(int what) {
        if (what < 0 || what > 1) {
            return OUT_OF_RANGE;
        }
        int best = 0;
        int bestSum = enviesWithout(0);
        for (int cousin = 1; cousin < COUSINS; cousin++) {
            int sum = enviesWithout(cousin);
            if (sum < bestSum) {
                best = cousin;
                bestSum = sum;
            }
        }
        return what == 0 ? best : bestSum;
    }

    private static boolean isPlot(int plot) {
        return plot >= 0 && plot < PLOTS;
    }

    private static boolean isCrop(int crop) {
        return crop >= 0 && crop < CROPS;
    }

    private static boolean isCousin(int cousin) {
        return cousin >= 0 && cousin < COUSINS;
    }

    private static boolean isDigit(int value) {
        return value >= 0 && value <= GREATEST_DIGIT;
    }

    private static boolean isParty(int cousins) {
        return cousins >= 1 && cousins <= EVERYBODY;
    }

    private static boolean isSettingValue(int setting, int value) {
        if (setting == ORDER) {
            return value == 0 || value == 1;
        }
        return value >= 1 && value <= GREATEST_SPITE;
    }

    private static boolean contains(int cousins, int cousin) {
        return (cousins & (1 << cousin)) != 0;
    }

    private static int without(int cousins, int cousin) {
        return cousins & ~(1 << cousin);
    }

    private static int hundredths(int part, int whole) {
        return whole == 0 ? 0 : part * 100 / whole;
    }

    private void divideNow(int cousins) {
        division.run(cousins);
        System.arraycopy(division.owners, 0, now.owners, 0, PLOTS);
        now.trims += division.trims;
        now.grudgeTrims += division.grudgeTrims;
    }

    private void tradeNow(int cousin, int other) {
        now.exchange(cousin, other);
        now.trades++;
        shares.exchange(cousin, other);
    }

    private int enviesWithout(int cousin) {
        int others = without(EVERYBODY, cousin);
        division.run(others);
        shares.measure(division.owners);
        return shares.enviesAmong(others);
    }

    private void carryOutOrder() {
        switch (text.kind) {
            case PLANTING:
                for (int crop = 0; crop < CROPS; crop++) {
                    now.putAmount(text.first, crop, text.digits[crop]);
                }
                break;
            case WEIGHING:
                for (int crop = 0; crop < CROPS; crop++) {
                    now.putWeight(text.first, crop, text.digits[crop]);
                }
                break;
            case GRUDGING:
                now.putGrudge(text.first, text.second, text.digits[0]);
                break;
            default:
                divideNow(text.party);
                break;
        }
    }

    /** The state: all that the history and the snapshot hold. */
    private static final class Harvest {
        final int[] amounts = new int[PLOTS * CROPS];
        final int[] weights = new int[COUSINS * CROPS];
        final int[] grudges = new int[COUSINS * COUSINS];
        final int[] owners = new int[PLOTS];
        final int[] settings = new int[SETTINGS];
        /* Follows from amounts and weights; held since dividing asks for it so often. */
        final int[] worths = new int[PLOTS * COUSINS];
        int trims;
        int grudgeTrims;
        int trades;

        Harvest() {
            for (int plot = 0; plot < PLOTS; plot++) {
                amounts[plot * CROPS + plot % CROPS] = 1;
                owners[plot] = NOBODY;
            }
            for (int i = 0; i < COUSINS * CROPS; i++) {
                weights[i] = 1;
            }
            settings[ORDER] = 0;
            settings[SPITE] = FIRST_SPITE;
            for (int cousin = 0; cousin < COUSINS; cousin++) {
                weighPlots(cousin);
            }
        }

        void copyFrom(Harvest other) {
            System.arraycopy(other.amounts, 0, amounts, 0, PLOTS * CROPS);
            System.arraycopy(other.weights, 0, weights, 0, COUSINS * CROPS);
            System.arraycopy(other.grudges, 0, grudges, 0, COUSINS * COUSINS);
            System.arraycopy(other.owners, 0, owners, 0, PLOTS);
            System.arraycopy(other.settings, 0, settings, 0, SETTINGS);
            System.arraycopy(other.worths, 0, worths, 0, PLOTS * COUSINS);
            trims = other.trims;
            grudgeTrims = other.grudgeTrims;
            trades = other.trades;
        }

        void putAmount(int plot, int crop, int amount) {
            amounts[plot * CROPS + crop] = amount;
            for (int cousin = 0; cousin < COUSINS; cousin++) {
                weighPlot(plot, cousin);
            }
        }

        void putWeight(int cousin, int crop, int weight) {
            weights[cousin * CROPS + crop] = weight;
            weighPlots(cousin);
        }

        void putGrudge(int cousin, int other, int grudge) {
            grudges[cousin * COUSINS + other] = grudge;
        }

        private void weighPlots(int cousin) {
            for (int plot = 0; plot < PLOTS; plot++) {
                weighPlot(plot, cousin);
            }
        }

        private void weighPlot(int plot, int cousin) {
            int sum = 0;
            for (int crop = 0; crop < CROPS; crop++) {
                sum += amounts[plot * CROPS + crop] * weights[cousin * CROPS + crop];
            }
            worths[plot * COUSINS + cousin] = sum;
        }

        int worthOf(int plot, int cousin) {
            return worths[plot * COUSINS + cousin];
        }

        int worthFrom(int start, int cousin) {
            int sum = 0;
            for (int plot = start; plot < PLOTS; plot++) {
                sum += worths[plot * COUSINS + cousin];
            }
            return sum;
        }

        int grudgeOf(int cousin, int other) {
            return grudges[cousin * COUSINS + other];
        }

        int grudgesOf(int cousin) {
            int sum = 0;
            for (int other = 0; other < COUSINS; other++) {
                sum += grudges[cousin * COUSINS + other];
            }
            return sum;
        }

        boolean isAhead(int cousin, int other) {
            if (settings[ORDER] == 0) {
                return cousin < other;
            }
            int sum = grudgesOf(cousin);
            int otherSum = grudgesOf(other);
            return sum > otherSum || (sum == otherSum && cousin < other);
        }

        int placeOf(int cousin) {
            int place = 0;
            for (int other = 0; other < COUSINS; other++) {
                if (isAhead(other, cousin)) {
                    place++;
                }
            }
            return place;
        }

        int plotsOf(int owner) {
            int count = 0;
            for (int plot = 0; plot < PLOTS; plot++) {
                if (owners[plot] == owner) {
                    count++;
                }
            }
            return count;
        }

        void exchange(int cousin, int other) {
            for (int plot = 0; plot < PLOTS; plot++) {
                if (owners[plot] == cousin) {
                    owners[plot] = other;
                } else if (owners[plot] == other) {
                    owners[plot] = cousin;
                }
            }
        }
    }

    /** Divides on rows of its own, so that the harvest stays as it is. */
    private static final class Division {
        final int[] owners = new int[PLOTS];
        int trims;
        int grudgeTrims;
        int lastCousin;
        private final Harvest harvest;
        private final int[] byOrder = new int[COUSINS];
        private int holder;
        private int pieceSize;

        Division(Harvest harvest) {
            this.harvest = harvest;
        }

        void run(int cousins) {
            trims = 0;
            grudgeTrims = 0;
            lineUp();
            int left = cousins;
            int start = 0;
            for (int n = Integer.bitCount(cousins); n > 1; n--) {
                cutAndTrim(left, n, start);
                handOut(start, start + pieceSize, holder);
                start += pieceSize;
                left = without(left, holder);
            }
            lastCousin = firstOf(left);
            handOut(start, PLOTS, lastCousin);
        }

        private void lineUp() {
            for (int cousin = 0; cousin < COUSINS; cousin++) {
                int place = cousin;
                while (place > 0 && harvest.isAhead(cousin, byOrder[place - 1])) {
                    byOrder[place] = byOrder[place - 1];
                    place--;
                }
                byOrder[place] = cousin;
            }
        }

        private void cutAndTrim(int left, int n, int start) {
            holder = NOBODY;
            for (int place = 0; place < COUSINS; place++) {
                int cousin = byOrder[place];
                if (contains(left, cousin)) {
                    int fairSize = fairPiece(cousin, n, start);
                    if (holder == NOBODY) {
                        hold(cousin, fairSize);
                    } else {
                        mayTrim(cousin, fairSize);
                    }
                }
            }
        }

        private void mayTrim(int cousin, int fairSize) {
            if (fairSize < pieceSize) {
                trims++;
                hold(cousin, fairSize);
            } else if (fairSize == pieceSize && fairSize >= 1
                    && harvest.grudgeOf(cousin, holder) >= harvest.settings[SPITE]) {
                trims++;
                grudgeTrims++;
                hold(cousin, fairSize - 1);
            }
        }

        private void hold(int cousin, int size) {
            holder = cousin;
            pieceSize = size;
        }

        private int fairPiece(int cousin, int n, int start) {
            int rest = harvest.worthFrom(start, cousin);
            int worth = 0;
            int size = 0;
            while (start + size < PLOTS && worth * n < rest) {
                worth += harvest.worthOf(start + size, cousin);
                size++;
            }
            return size;
        }

        private int firstOf(int cousins) {
            for (int place = 0; place < COUSINS; place++) {
                if (contains(cousins, byOrder[place])) {
                    return byOrder[place];
                }
            }
            return NOBODY;
        }

        private void handOut(int from, int end, int cousin) {
            for (int plot = from; plot < end && plot < PLOTS; plot++) {
                owners[plot] = cousin;
            }
        }
    }

    /** What the share of each cousin is worth to each, for one way to own the plots. */
    private static final class Shares {
        int bestFirst;
        int bestSecond;
        int bestSum;
        private final Harvest harvest;
        private final int[] worths = new int[COUSINS * COUSINS];

        Shares(Harvest harvest) {
            this.harvest = harvest;
        }

        void measure(int[] owners) {
            for (int i = 0; i < COUSINS * COUSINS; i++) {
                worths[i] = 0;
            }
            for (int plot = 0; plot < PLOTS; plot++) {
                int owner = owners[plot];
                if (isCousin(owner)) {
                    for (int cousin = 0; cousin < COUSINS; cousin++) {
                        worths[cousin * COUSINS + owner] += harvest.worthOf(plot, cousin);
                    }
                }
            }
        }

        void exchange(int first, int second) {
            for (int row = 0; row < COUSINS * COUSINS; row += COUSINS) {
                int worth = worths[row + first];
                worths[row + first] = worths[row + second];
                worths[row + second] = worth;
            }
        }

        int worthOf(int cousin, int other) {
            return worths[cousin * COUSINS + other];
        }

        int seeming(int cousin, int other) {
            int pair = cousin * COUSINS + other;
            return worths[pair] * (10 + harvest.grudges[pair]) / 10;
        }

        int envy(int cousin, int other) {
            if (cousin == other) {
                return 0;
            }
            return Math.max(0, seeming(cousin, other) - worthOf(cousin, cousin));
        }

        int enviesOf(int cousin, int others) {
            int sum = 0;
            for (int other = 0; other < COUSINS; other++) {
                if (contains(others, other)) {
                    sum += envy(cousin, other);
                }
            }
            return sum;
        }

        int enviesAmong(int cousins) {
            int sum = 0;
            for (int cousin = 0; cousin < COUSINS; cousin++) {
                if (contains(cousins, cousin)) {
                    sum += enviesOf(cousin, cousins);
                }
            }
            return sum;
        }

        int greatestEnvyOf(int cousin) {
            int greatest = 0;
            for (int other = 0; other < COUSINS; other++) {
                greatest = Math.max(greatest, envy(cousin, other));
            }
            return greatest;
        }

        int enviesTowards(int other) {
            int sum = 0;
            for (int cousin = 0; cousin < COUSINS; cousin++) {
                sum += envy(cousin, other);
            }
            return sum;
        }

        int contentCousins() {
            int count = 0;
            for (int cousin = 0; cousin < COUSINS; cousin++) {
                if (greatestEnvyOf(cousin) == 0) {
                    count++;
                }
            }
            return count;
        }

        int whyNoTrade(int first, int second) {
            int spite = harvest.settings[SPITE];
            if (harvest.grudgeOf(first, second) >= spite || harvest.grudgeOf(second, first) >= spite) {
                return 1;
            }
            if (worthOf(first, second) <= worthOf(first, first)) {
                return 2;
            }
            if (worthOf(second, first) <= worthOf(second, second)) {
                return 3;
            }
            return 0;
        }

        int tradingPairs() {
            int count = 0;
            for (int first = 0; first < COUSINS; first++) {
                for (int second = first + 1; second < COUSINS; second++) {
                    if (whyNoTrade(first, second) == 0) {
                        count++;
                    }
                }
            }
            return count;
        }

        boolean findBestTrade() {
            boolean found = false;
            for (int first = 0; first < COUSINS; first++) {
                for (int second = first + 1; second < COUSINS; second++) {
                    if (whyNoTrade(first, second) == 0) {
                        int sum = enviesAfterTrade(first, second);
                        if (!found || sum < bestSum) {
                            found = true;
                            bestFirst = first;
                            bestSecond = second;
                            bestSum = sum;
                        }
                    }
                }
            }
            return found;
        }

        private int enviesAfterTrade(int first, int second) {
            exchange(first, second);
            int sum = enviesAmong(EVERYBODY);
            exchange(first, second);
            return sum;
        }
    }

    /** The text, and the order in it that was read last. */
    private static final class OrderText {
        int length;
        /* The reading place: where reading stops, there is the fault. */
        int at;
        int kind;
        int first;
        int second;
        int party;
        final int[] digits = new int[CROPS];
        private final char[] signs = new char[LONGEST_TEXT];

        void append(char sign) {
            if (length < LONGEST_TEXT) {
                signs[length] = sign;
                length++;
            }
        }

        /** Answers 0 if the text has a fault. */
        int countOrders() {
            at = 0;
            for (int count = 1; count <= LONGEST_TEXT; count++) {
                if (!readOrder()) {
                    return 0;
                }
                if (at == length) {
                    return count;
                }
                if (!readSign(';')) {
                    return 0;
                }
            }
            return 0;
        }

        boolean readOrder() {
            if (readSign('p')) {
                kind = PLANTING;
                return readPlot() && readSign('=') && readDigits(CROPS);
            }
            if (readSign('w')) {
                kind = WEIGHING;
                return readCousin() && readSign('=') && readDigits(CROPS);
            }
            if (readSign('g')) {
                kind = GRUDGING;
                return readCousin() && readOther() && readSign('=') && readDigits(1);
            }
            if (readSign('d')) {
                kind = DIVIDING;
                return readParty();
            }
            return false;
        }

        boolean readSign(char sign) {
            if (at < length && signs[at] == sign) {
                at++;
                return true;
            }
            return false;
        }

        /** Answers -1, and reads nothing, if there is no such digit. */
        private int readDigit(int least, int greatest) {
            if (at >= length) {
                return -1;
            }
            int digit = signs[at] - '0';
            if (digit < least || digit > greatest) {
                return -1;
            }
            at++;
            return digit;
        }

        private boolean readPlot() {
            first = readDigit(0, GREATEST_DIGIT);
            if (first > 0) {
                int next = readDigit(0, Math.min(GREATEST_DIGIT, PLOTS - 1 - 10 * first));
                if (next >= 0) {
                    first = 10 * first + next;
                }
            }
            return first >= 0;
        }

        private boolean readCousin() {
            first = readDigit(0, COUSINS - 1);
            return first >= 0;
        }

        private boolean readOther() {
            second = readDigit(0, first - 1);
            if (second < 0) {
                second = readDigit(first + 1, COUSINS - 1);
            }
            return second >= 0;
        }

        private boolean readDigits(int count) {
            for (int i = 0; i < count && i < CROPS; i++) {
                int digit = readDigit(0, GREATEST_DIGIT);
                if (digit < 0) {
                    return false;
                }
                digits[i] = digit;
            }
            return true;
        }

        private boolean readParty() {
            party = 0;
            int least = 0;
            for (int i = 0; i < COUSINS; i++) {
                int cousin = readDigit(least, COUSINS - 1);
                if (cousin < 0) {
                    break;
                }
                party |= 1 << cousin;
                least = cousin + 1;
            }
            return party != 0;
        }
    }

    /** The latest states, the oldest one first. */
    private static final class History {
        int count;
        private final Harvest[] states = new Harvest[HISTORY_STATES];

        History() {
            for (int i = 0; i < HISTORY_STATES; i++) {
                states[i] = new Harvest();
            }
        }

        void record(Harvest state) {
            if (count >= HISTORY_STATES) {
                dropOldest();
            }
            states[count].copyFrom(state);
            count++;
        }

        void takeLatest(Harvest target) {
            if (count > 0) {
                count--;
                target.copyFrom(states[count]);
            }
        }

        /* The row of the oldest state is used again: no call makes a new one. */
        private void dropOldest() {
            Harvest oldest = states[0];
            for (int i = 1; i < HISTORY_STATES; i++) {
                states[i - 1] = states[i];
            }
            states[HISTORY_STATES - 1] = oldest;
            count--;
        }
    }
}
