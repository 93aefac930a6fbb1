import java.util.Arrays;

/** The market of a round square, on which every stall goes one place sunwise at each stroke. */
public final class MovingMarket {
    private static final int LOW = -1000001;
    private static final int BEYOND = 0;
    private static final int FULL = 1;
    private static final int KIND = 2;
    private static final int NONE = 3;
    private static final int STATE = 4;
    private static final int MISSING = 5;
    private static final int SIZE = 6;
    private static final int FINDINGS = 7;

    private static final int PLACES = 12;
    private static final int MOST_VISITS = 20;
    private static final int FIRST_VISITS = 3;
    private static final int MOST_STALLS = 8;
    private static final int MOST_GOODS = 99;
    private static final int FIRST_GOODS = 20;
    private static final int LAST_HOUR = 999;

    private static final int KINDS = 7;
    private static final int DOUBLE = 1;
    private static final int IDLE = 2;
    private static final int SHADED = 3;
    private static final int LAZY = 4;
    private static final int BLIND = 5;
    private static final int CHEESE = 6;
    private static final int[] KIND_ABOVE = {-1, 0, 0, 1, 2, 0, 5};
    private static final int[] PRICES = {2, 2, 1, 3, 1, 2, 5};

    private static final int FAR_HOURS = 96;
    private static final int TRADE_HOURS = 48;
    private static final int ORDER_HOURS = 24;
    private static final int MOST_ORDERED = 6;
    private static final int MOST_LOTS = 12;

    private static final int SPOTS = 10;
    private static final int SHEETS = 4;
    private static final int MOST_NUMBERS = 40;
    private static final int WORD_NUMBERS = 3;
    private static final int MOST_BYTES = 120;

    private final Square now = new Square();
    private final Square trial = new Square();
    private final Square kept = new Square();
    private final Order tried = new Order();
    private final Order winner = new Order();
    private final Tape tape = new Tape();
    private final Sheet[] sheets = new Sheet[SHEETS];
    private final int[] plainCoin = new int[MOST_STALLS];
    private final int[] told = new int[FINDINGS];
    private boolean isKept;

    public MovingMarket() {
        for (int s = 0; s < SHEETS; s++) {
            sheets[s] = new Sheet();
        }
    }

    // ---- the square

    public int visits(int place, int v) {
        if (!isPlace(place) || v < 0 || v > MOST_VISITS) {
            return finding(BEYOND);
        }
        int old = now.visitsAt[place];
        now.visitsAt[place] = v;
        return old;
    }

    public int shade(int place, boolean is) {
        if (!isPlace(place)) {
            return finding(BEYOND);
        }
        int old = now.shadeAt[place];
        now.shadeAt[place] = is ? 1 : 0;
        return old;
    }

    public int spring(int place) {
        if (!isPlace(place)) {
            return finding(BEYOND);
        }
        int old = now.springAt;
        now.springAt = place;
        return old;
    }

    public int stall(int kind, int place) {
        if (!isKind(kind) || !isPlace(place)) {
            return finding(BEYOND);
        }
        if (now.stallAt(place) >= 0) {
            return finding(STATE);
        }
        if (now.stalls >= MOST_STALLS) {
            return finding(FULL);
        }
        return now.addStall(kind, place);
    }

    public int of(int stall, int what) {
        if (!isStall(stall)) {
            return finding(BEYOND);
        }
        switch (what) {
            case 0: return now.kindOf[stall];
            case 1: return now.whereIs[stall];
            case 2: return now.goodsOf[stall];
            case 3: return now.coinOf[stall];
            case 4: return now.soldOf[stall];
            case 5: return now.priceOf(stall);
            case 6: return now.wouldGo(stall) ? 1 : 0;
            default: return finding(BEYOND);
        }
    }

    public int change(int stall, int what, int v) {
        if (!isStall(stall)) {
            return finding(BEYOND);
        }
        if (what == 0 && isKind(v)) {
            int old = now.kindOf[stall];
            now.kindOf[stall] = v;
            return old;
        }
        if (what == 2 && v >= 0 && v <= MOST_GOODS) {
            int old = now.goodsOf[stall];
            now.goodsOf[stall] = v;
            return old;
        }
        return finding(BEYOND);
    }

    public int swap(int one, int other) {
        if (!isStall(one) || !isStall(other)) {
            return finding(BEYOND);
        }
        now.exchange(one, other);
        return 1;
    }

    public int offers(int stall, int place) {
        if (!isStall(stall) || !isPlace(place)) {
            return finding(BEYOND);
        }
        return now.offerAt(now.kindOf[stall], place);
    }

    public int placeOf(int place, int what) {
        if (!isPlace(place)) {
            return finding(BEYOND);
        }
        switch (what) {
            case 0: return now.visitsAt[place];
            case 1: return now.shadeAt[place];
            case 2: return now.stallAt(place);
            default: return finding(BEYOND);
        }
    }

    // ---- hours

    public int hours(int n) {
        int found = aheadFinding(true, n, 1, TRADE_HOURS);
        return found != 0 ? found : now.passHours(n);
    }

    public int stay() {
        trial.become(now);
        trial.sellAll();
        return trial.stayers();
    }

    public int ahead(int n, int what) {
        int found = aheadFinding(what >= 0 && what < 4 + now.stalls, n, 0, FAR_HOURS);
        if (found != 0) {
            return found;
        }
        trial.become(now);
        int sale = trial.passHours(n);
        switch (what) {
            case 0: return sale;
            case 1: return trial.soldOut();
            case 2: return trial.freePlaces();
            case 3: return trial.allCoin();
            default: return trial.whereIs[what - 4];
        }
    }

    public int when(int stall, int place) {
        int found = aheadFinding(isStall(stall) && isPlace(place), FAR_HOURS, 0, FAR_HOURS);
        if (found != 0) {
            return found;
        }
        trial.become(now);
        for (int h = 0; h <= FAR_HOURS; h++) {
            if (trial.whereIs[stall] == place) {
                return h;
            }
            trial.passHour();
        }
        return finding(NONE);
    }

    public int empty(int stall) {
        int found = aheadFinding(isStall(stall), FAR_HOURS, 0, FAR_HOURS);
        if (found != 0) {
            return found;
        }
        trial.become(now);
        for (int h = 0; h <= FAR_HOURS; h++) {
            if (trial.goodsOf[stall] == 0) {
                return h;
            }
            trial.passHour();
        }
        return finding(NONE);
    }

    public int again() {
        int found = aheadFinding(true, FAR_HOURS, 0, FAR_HOURS);
        if (found != 0) {
            return found;
        }
        trial.become(now);
        for (int h = 1; h <= FAR_HOURS; h++) {
            trial.passHour();
            if (trial.standsLike(now)) {
                return h;
            }
        }
        return finding(NONE);
    }

    public int there(int place, int n) {
        int found = aheadFinding(isPlace(place), n, 0, FAR_HOURS);
        if (found != 0) {
            return found;
        }
        trial.become(now);
        trial.passHours(n);
        int stall = trial.stallAt(place);
        return stall >= 0 ? stall : finding(NONE);
    }

    public int passes(int stall) {
        if (!isStall(stall)) {
            return finding(BEYOND);
        }
        trial.become(now);
        trial.sellAll();
        int stayers = trial.stayers();
        if ((stayers >> stall & 1) == 1) {
            return 0;
        }
        int steps = trial.stepsFrom(trial.whereIs[stall], trial.placesOf(stayers));
        return steps - 1;
    }

    // ---- orders at dawn

    public int most(int n) {
        int found = orderFinding(true, n, 1);
        return found != 0 ? found : searchMost(n);
    }

    public int order(int stall, int n) {
        int found = orderFinding(isStall(stall), n, 1);
        if (found != 0) {
            return found;
        }
        searchMost(n);
        return winner.taken[stall];
    }

    public int dawn(int stall, int place, int n) {
        int found = orderFinding(isStall(stall) && isPlace(place), n, 0);
        if (found != 0) {
            return found;
        }
        int orders = tried.begin(now.stalls);
        for (int k = 0; k < orders; k++) {
            tryOrder();
            trial.passHours(n);
            if (trial.whereIs[stall] == place) {
                return tried.taken[stall];
            }
            tried.advance();
        }
        return finding(NONE);
    }

    public int throwAway(int stall, int n) {
        int found = aheadFinding(isStall(stall), n, 1, TRADE_HOURS);
        if (found != 0) {
            return found;
        }
        int best = 0;
        int bestCoin = -1;
        for (int less = 0; less <= now.goodsOf[stall]; less++) {
            trial.become(now);
            trial.goodsOf[stall] -= less;
            trial.passHours(n);
            if (trial.coinOf[stall] > bestCoin) {
                bestCoin = trial.coinOf[stall];
                best = less;
            }
        }
        return best;
    }

    public int wishes(int stall, int n) {
        int found = aheadFinding(isStall(stall), n, 1, TRADE_HOURS);
        if (found != 0) {
            return found;
        }
        swapAhead(stall, stall, n);
        int wished = stall;
        int bestCoin = trial.coinOf[stall];
        for (int other = 0; other < now.stalls; other++) {
            swapAhead(stall, other, n);
            if (trial.coinOf[stall] > bestCoin) {
                bestCoin = trial.coinOf[stall];
                wished = other;
            }
        }
        return wished;
    }

    public int deal(int n) {
        int found = aheadFinding(true, n, 1, TRADE_HOURS);
        if (found != 0) {
            return found;
        }
        trial.become(now);
        trial.passHours(n);
        System.arraycopy(trial.coinOf, 0, plainCoin, 0, MOST_STALLS);
        for (int one = 0; one < now.stalls; one++) {
            for (int other = one + 1; other < now.stalls; other++) {
                swapAhead(one, other, n);
                if (trial.coinOf[one] > plainCoin[one] && trial.coinOf[other] > plainCoin[other]) {
                    return 10 * one + other;
                }
            }
        }
        return finding(NONE);
    }

    // ---- beside

    public int beside(int stall) {
        if (!isStall(stall)) {
            return finding(BEYOND);
        }
        return now.besideSet(stall);
    }

    public int ever(int stall, int n) {
        int found = aheadFinding(isStall(stall), n, 0, FAR_HOURS);
        if (found != 0) {
            return found;
        }
        trial.become(now);
        int set = trial.besideSet(stall);
        for (int h = 1; h <= n; h++) {
            trial.passHour();
            set |= trial.besideSet(stall);
        }
        return set;
    }

    public int meet(int one, int other) {
        int found = aheadFinding(isPair(one, other), FAR_HOURS, 0, FAR_HOURS);
        if (found != 0) {
            return found;
        }
        trial.become(now);
        int hour = firstBeside(one, other, FAR_HOURS);
        return hour >= 0 ? hour : finding(NONE);
    }

    public int never(int one, int other, int n) {
        int found = orderFinding(isPair(one, other), n, 0);
        if (found != 0) {
            return found;
        }
        int count = 0;
        int orders = tried.begin(now.stalls);
        for (int k = 0; k < orders; k++) {
            tryOrder();
            if (firstBeside(one, other, n) < 0) {
                count++;
            }
            tried.advance();
        }
        return count;
    }

    // ---- places, words, lots

    public int worth(int stall, int place, int n) {
        int found = aheadFinding(isStall(stall) && isPlace(place), n, 1, TRADE_HOURS);
        if (found != 0) {
            return found;
        }
        int stayed = coinFrom(stall, now.whereIs[stall], n);
        return coinFrom(stall, place, n) - stayed;
    }

    public int best(int stall, int n) {
        int found = aheadFinding(isStall(stall), n, 1, TRADE_HOURS);
        if (found != 0) {
            return found;
        }
        int best = 0;
        int bestCoin = -1;
        for (int place = 0; place < PLACES; place++) {
            int coin = coinFrom(stall, place, n);
            if (coin > bestCoin) {
                bestCoin = coin;
                best = place;
            }
        }
        return best;
    }

    public int thief(int place, int n) {
        int found = aheadFinding(isPlace(place), n, 0, FAR_HOURS);
        if (found != 0) {
            return found;
        }
        trial.become(now);
        trial.passHours(n);
        int stall = trial.stallAt(place);
        return stall >= 0 ? trial.goodsOf[stall] : 0;
    }

    public int lots(int n) {
        if (n < 1 || n > MOST_LOTS) {
            return finding(BEYOND);
        }
        if (now.stalls <= 0) {
            return finding(STATE);
        }
        for (int k = 0; k < n; k++) {
            int one = now.draw() % now.stalls;
            int other = now.draw() % now.stalls;
            now.exchange(one, other);
        }
        return 100 * now.whereIs[0] + now.whereIs[now.stalls - 1];
    }

    public int seed(int v) {
        int old = now.z;
        now.z = v;
        return old;
    }

    // ---- texts

    public int feed(int bytes, int n) {
        if (n < 1 || n > 4) {
            return finding(BEYOND);
        }
        if (tape.length + n > MOST_BYTES) {
            return finding(FULL);
        }
        for (int k = n - 1; k >= 0; k--) {
            tape.put(bytes >>> (8 * k) & 255);
        }
        return tape.length;
    }

    public int wipe() {
        int had = tape.length;
        tape.length = 0;
        return had;
    }

    public int text() {
        // It is read onto the trial square, so that a fault leaves this one as it is.
        trial.become(now);
        int items = tape.readText(trial);
        tape.length = 0;
        if (items >= 0) {
            now.become(trial);
        }
        return items;
    }

    // ---- spots, sheets

    public int hold(int spot, int stall) {
        if (!isSpot(spot) || stall < -1 || stall >= now.stalls) {
            return finding(BEYOND);
        }
        now.heldIn[spot] = stall;
        return 1;
    }

    public int as(int spot, int kind) {
        if (!isSpot(spot) || !isKind(kind)) {
            return finding(BEYOND);
        }
        int stall = now.heldIn[spot];
        if (!isStall(stall)) {
            return finding(MISSING);
        }
        return now.isOfKind(stall, kind) ? stall : finding(KIND);
    }

    public int sheet(int s, int bits, int n) {
        if (!isSheet(s) || bits != 0 && bits != 8 && bits != 16 && bits != 32) {
            return finding(BEYOND);
        }
        if (n < 0) {
            return finding(SIZE);
        }
        if (n > MOST_NUMBERS) {
            return finding(BEYOND);
        }
        sheets[s].begin(bits, bits == 0 ? 0 : n);
        return sheets[s].length;
    }

    public int write(int s, int i, int v) {
        int found = sheetFinding(s);
        if (found != 0) {
            return found;
        }
        if (i < 0 || i >= sheets[s].length) {
            return finding(BEYOND);
        }
        sheets[s].put(i, v);
        return 1;
    }

    public int copy(int s, int from, int t, int to, int n) {
        if (!isSheet(s) || !isSheet(t)) {
            return finding(BEYOND);
        }
        Sheet source = sheets[s];
        Sheet target = sheets[t];
        if (source.bits == 0 || target.bits == 0) {
            return finding(MISSING);
        }
        if (source.bits != target.bits) {
            return finding(KIND);
        }
        if (!source.hasPart(from, n) || !target.hasPart(to, n)) {
            return finding(BEYOND);
        }
        System.arraycopy(source.numbers, from, target.numbers, to, n);
        return n;
    }

    public int load(int s) {
        int found = sheetFinding(s);
        if (found != 0) {
            return found;
        }
        int most = Math.min(sheets[s].length, PLACES);
        int came = 0;
        while (came < most && sheets[s].numbers[came] >= 0 && sheets[s].numbers[came] <= MOST_VISITS) {
            now.visitsAt[came] = sheets[s].numbers[came];
            came++;
        }
        return came;
    }

    public int fit(int s) {
        int found = sheetFinding(s);
        if (found == 0) {
            found = orderFinding(true, ORDER_HOURS, 0);
        }
        if (found != 0) {
            return found;
        }
        int last = lastWordHour(sheets[s]);
        if (last < 0) {
            return 0;
        }
        int count = 0;
        int orders = tried.begin(now.stalls);
        for (int k = 0; k < orders; k++) {
            tryOrder();
            if (wordsAreSo(sheets[s], last)) {
                count++;
            }
            tried.advance();
        }
        return count;
    }

    public int judge(int s, int n) {
        int found = sheetFinding(s);
        if (found == 0) {
            found = aheadFinding(true, n, 0, FAR_HOURS);
        }
        if (found != 0) {
            return found;
        }
        trial.become(now);
        trial.passHours(n);
        int most = Math.min(sheets[s].length, PLACES);
        int right = 0;
        while (right < most && sheets[s].numbers[right] == trial.stallAt(right)) {
            right++;
        }
        return right == PLACES && sheets[s].length == PLACES ? 0 : 1 + right;
    }

    // ---- images

    public int image() {
        kept.become(now);
        isKept = true;
        return 1;
    }

    public int undo() {
        if (!isKept) {
            return finding(NONE);
        }
        now.become(kept);
        return now.hour;
    }

    public int tear() {
        int was = isKept ? 1 : 0;
        isKept = false;
        return was;
    }

    public int count(int what) {
        switch (what) {
            case 0: return now.hour;
            case 1: return now.stalls;
            case 2: return now.allGoods();
            case 3: return now.allCoin();
            case 4: return now.allVisits();
            case 5: return tape.length;
            case 6: return now.z;
            case 7: return now.spotsInUse();
            default: return finding(BEYOND);
        }
    }

    public int status(int which) {
        if (which < -1 || which >= FINDINGS) {
            return finding(BEYOND);
        }
        if (which >= 0) {
            return told[which];
        }
        int sum = 0;
        for (int k = 0; k < FINDINGS; k++) {
            sum += told[k];
        }
        return sum;
    }

    // ---- what the calls share

    private int finding(int which) {
        told[which]++;
        return LOW - which;
    }

    private static boolean isPlace(int place) {
        return place >= 0 && place < PLACES;
    }

    private static boolean isKind(int kind) {
        return kind >= 0 && kind < KINDS;
    }

    private static boolean isSpot(int spot) {
        return spot >= 0 && spot < SPOTS;
    }

    private static boolean isSheet(int s) {
        return s >= 0 && s < SHEETS;
    }

    private boolean isStall(int stall) {
        return stall >= 0 && stall < now.stalls;
    }

    private boolean isPair(int one, int other) {
        return isStall(one) && isStall(other) && one != other;
    }

    /** 0, or the finding of a look n hours ahead. */
    private int aheadFinding(boolean known, int n, int least, int most) {
        if (!known || n < least || n > most) {
            return finding(BEYOND);
        }
        return now.hour + n > LAST_HOUR ? finding(STATE) : 0;
    }

    /** 0, or the finding of a search through the orders, n hours ahead. */
    private int orderFinding(boolean known, int n, int least) {
        int found = aheadFinding(known, n, least, ORDER_HOURS);
        if (found != 0) {
            return found;
        }
        return now.stalls > MOST_ORDERED ? finding(SIZE) : 0;
    }

    /** 0, or the finding of a sheet that isn't there. */
    private int sheetFinding(int s) {
        if (!isSheet(s)) {
            return finding(BEYOND);
        }
        return sheets[s].bits == 0 ? finding(MISSING) : 0;
    }

    private void tryOrder() {
        trial.become(now);
        for (int stall = 0; stall < now.stalls; stall++) {
            trial.whereIs[stall] = now.whereIs[tried.taken[stall]];
        }
    }

    /** The most that any order sells; the first that sells it is the winner then. */
    private int searchMost(int n) {
        int most = -1;
        int orders = tried.begin(now.stalls);
        for (int k = 0; k < orders; k++) {
            tryOrder();
            int sale = trial.passHours(n);
            if (sale > most) {
                most = sale;
                winner.become(tried);
            }
            tried.advance();
        }
        return most;
    }

    private void swapAhead(int one, int other, int n) {
        trial.become(now);
        trial.exchange(one, other);
        trial.passHours(n);
    }

    private int coinFrom(int stall, int place, int n) {
        trial.become(now);
        trial.bring(stall, place);
        trial.passHours(n);
        return trial.coinOf[stall];
    }

    /** Behind how many hours the two are beside first on the trial square; -1 if behind none. */
    private int firstBeside(int one, int other, int n) {
        for (int h = 0; h <= n; h++) {
            if (trial.areBeside(one, other)) {
                return h;
            }
            trial.passHour();
        }
        return -1;
    }

    /** The last hour that the words speak of; -1 if one of them can never be so. */
    private int lastWordHour(Sheet sheet) {
        int last = 0;
        for (int i = 0; i + WORD_NUMBERS <= sheet.length; i += WORD_NUMBERS) {
            int hour = sheet.numbers[i + 2];
            if (!isStall(sheet.numbers[i]) || !isPlace(sheet.numbers[i + 1]) || hour < 0 || hour > ORDER_HOURS) {
                return -1;
            }
            last = Math.max(last, hour);
        }
        return last;
    }

    private boolean wordsAreSo(Sheet sheet, int last) {
        for (int h = 0; h <= last; h++) {
            for (int i = 0; i + WORD_NUMBERS <= sheet.length; i += WORD_NUMBERS) {
                int stall = sheet.numbers[i];
                if (sheet.numbers[i + 2] == h && isStall(stall) && trial.whereIs[stall] != sheet.numbers[i + 1]) {
                    return false;
                }
            }
            trial.passHour();
        }
        return true;
    }

    /** All that an image keeps. */
    private static final class Square {
        final int[] visitsAt = new int[PLACES];
        final int[] shadeAt = new int[PLACES];
        final int[] kindOf = new int[MOST_STALLS];
        final int[] whereIs = new int[MOST_STALLS];
        final int[] goodsOf = new int[MOST_STALLS];
        final int[] coinOf = new int[MOST_STALLS];
        final int[] soldOf = new int[MOST_STALLS];
        final int[] heldIn = new int[SPOTS];
        int springAt;
        int stalls;
        int hour;
        int z = 1;

        Square() {
            Arrays.fill(visitsAt, FIRST_VISITS);
            Arrays.fill(heldIn, -1);
        }

        void become(Square other) {
            System.arraycopy(other.visitsAt, 0, visitsAt, 0, PLACES);
            System.arraycopy(other.shadeAt, 0, shadeAt, 0, PLACES);
            System.arraycopy(other.kindOf, 0, kindOf, 0, MOST_STALLS);
            System.arraycopy(other.whereIs, 0, whereIs, 0, MOST_STALLS);
            System.arraycopy(other.goodsOf, 0, goodsOf, 0, MOST_STALLS);
            System.arraycopy(other.coinOf, 0, coinOf, 0, MOST_STALLS);
            System.arraycopy(other.soldOf, 0, soldOf, 0, MOST_STALLS);
            System.arraycopy(other.heldIn, 0, heldIn, 0, SPOTS);
            springAt = other.springAt;
            stalls = other.stalls;
            hour = other.hour;
            z = other.z;
        }

        /** Its caller has looked that there is room. */
        int addStall(int kind, int place) {
            int stall = stalls;
            kindOf[stall] = kind;
            whereIs[stall] = place;
            goodsOf[stall] = FIRST_GOODS;
            coinOf[stall] = 0;
            soldOf[stall] = 0;
            stalls++;
            return stall;
        }

        int stallAt(int place) {
            for (int stall = 0; stall < stalls; stall++) {
                if (whereIs[stall] == place) {
                    return stall;
                }
            }
            return -1;
        }

        boolean isOfKind(int stall, int kind) {
            int above = kindOf[stall];
            for (int steps = 0; steps < KINDS && above >= 0; steps++) {
                if (above == kind) {
                    return true;
                }
                above = KIND_ABOVE[above];
            }
            return false;
        }

        int priceOf(int stall) {
            return PRICES[kindOf[stall]];
        }

        boolean wouldGo(int stall) {
            switch (kindOf[stall]) {
                case IDLE: return hour % 2 == 0;
                case LAZY: return hour % 2 == 0 && hour % 3 == 0;
                default: return true;
            }
        }

        int offerAt(int kind, int place) {
            switch (kind) {
                case DOUBLE: return twofoldVisits(place);
                case SHADED: return shadeAt[place] == 1 ? twofoldVisits(place) : 0;
                case BLIND: return visitsAt[place] / 2;
                case CHEESE: return visitsAt[place] / 2 * (place == springAt ? 3 : 1);
                default: return visitsAt[place];
            }
        }

        private int twofoldVisits(int place) {
            return visitsAt[place] + visitsAt[(place + 1) % PLACES];
        }

        void exchange(int one, int other) {
            int place = whereIs[one];
            whereIs[one] = whereIs[other];
            whereIs[other] = place;
        }

        /** One that is there changes with it, as no two are ever at one place. */
        void bring(int stall, int place) {
            int before = stallAt(place);
            if (before >= 0) {
                whereIs[before] = whereIs[stall];
            }
            whereIs[stall] = place;
        }

        int passHours(int n) {
            int sale = 0;
            for (int h = 0; h < n; h++) {
                sale += passHour();
            }
            return sale;
        }

        int passHour() {
            int sale = sellAll();
            strike();
            hour++;
            return sale;
        }

        int sellAll() {
            int sale = 0;
            for (int stall = 0; stall < stalls; stall++) {
                int sells = Math.min(goodsOf[stall], offerAt(kindOf[stall], whereIs[stall]));
                goodsOf[stall] -= sells;
                soldOf[stall] += sells;
                coinOf[stall] += sells * priceOf(stall);
                sale += sells;
            }
            return sale;
        }

        private void strike() {
            int stayers = stayers();
            int taken = placesOf(stayers);
            for (int stall = 0; stall < stalls; stall++) {
                if ((stayers >> stall & 1) == 0) {
                    whereIs[stall] = (whereIs[stall] + stepsFrom(whereIs[stall], taken)) % PLACES;
                }
            }
        }

        int stayers() {
            int set = 0;
            for (int stall = 0; stall < stalls; stall++) {
                if (goodsOf[stall] == 0 || !wouldGo(stall)) {
                    set |= 1 << stall;
                }
            }
            return set;
        }

        int placesOf(int set) {
            int places = 0;
            for (int stall = 0; stall < stalls; stall++) {
                if ((set >> stall & 1) == 1) {
                    places |= 1 << whereIs[stall];
                }
            }
            return places;
        }

        /** Eight stalls never take all places: the bound is there to show that it ends. */
        int stepsFrom(int place, int taken) {
            int steps = 1;
            while (steps < PLACES && (taken >> (place + steps) % PLACES & 1) == 1) {
                steps++;
            }
            return steps;
        }

        boolean standsLike(Square other) {
            for (int stall = 0; stall < stalls; stall++) {
                if (whereIs[stall] != other.whereIs[stall]) {
                    return false;
                }
            }
            return true;
        }

        boolean areBeside(int one, int other) {
            int apart = Math.floorMod(whereIs[one] - whereIs[other], PLACES);
            return apart == 1 || apart == PLACES - 1;
        }

        int besideSet(int stall) {
            int set = 0;
            for (int other = 0; other < stalls; other++) {
                if (areBeside(stall, other)) {
                    set |= 1 << other;
                }
            }
            return set;
        }

        int soldOut() {
            int set = 0;
            for (int stall = 0; stall < stalls; stall++) {
                if (goodsOf[stall] == 0) {
                    set |= 1 << stall;
                }
            }
            return set;
        }

        int freePlaces() {
            return (1 << PLACES) - 1 & ~placesOf((1 << stalls) - 1);
        }

        int allCoin() {
            int sum = 0;
            for (int stall = 0; stall < stalls; stall++) {
                sum += coinOf[stall];
            }
            return sum;
        }

        int allGoods() {
            int sum = 0;
            for (int stall = 0; stall < stalls; stall++) {
                sum += goodsOf[stall];
            }
            return sum;
        }

        int allVisits() {
            int sum = 0;
            for (int place = 0; place < PLACES; place++) {
                sum += visitsAt[place];
            }
            return sum;
        }

        int spotsInUse() {
            int used = 0;
            for (int spot = 0; spot < SPOTS; spot++) {
                if (heldIn[spot] >= 0) {
                    used++;
                }
            }
            return used;
        }

        int draw() {
            z = z * 1103515245 + 12345;
            return z >>> 8;
        }
    }

    /** An order of the stalls: whose place each takes. */
    private static final class Order {
        final int[] taken = new int[MOST_STALLS];
        int stalls;

        /** It becomes the first order of so many stalls; how many there are. */
        int begin(int many) {
            stalls = many;
            int orders = 1;
            for (int k = 0; k < stalls; k++) {
                taken[k] = k;
                orders *= k + 1;
            }
            return orders;
        }

        void become(Order other) {
            stalls = other.stalls;
            System.arraycopy(other.taken, 0, taken, 0, MOST_STALLS);
        }

        /** It becomes the next order by numbers; behind the last one it stays. */
        void advance() {
            int rise = stalls - 2;
            while (rise >= 0 && taken[rise] > taken[rise + 1]) {
                rise--;
            }
            if (rise < 0) {
                return;
            }
            int more = stalls - 1;
            while (more > rise && taken[more] < taken[rise]) {
                more--;
            }
            exchangeTaken(rise, more);
            int low = rise + 1;
            int high = stalls - 1;
            while (low < high) {
                exchangeTaken(low, high);
                low++;
                high--;
            }
        }

        private void exchangeTaken(int one, int other) {
            int first = taken[one];
            taken[one] = taken[other];
            taken[other] = first;
        }
    }

    /** A row of numbers; of 0 bits it is missing. */
    private static final class Sheet {
        final int[] numbers = new int[MOST_NUMBERS];
        int bits;
        int length;

        void begin(int newBits, int newLength) {
            bits = newBits;
            length = newLength;
            Arrays.fill(numbers, 0);
        }

        void put(int i, int v) {
            switch (bits) {
                case 8: numbers[i] = (byte) v; break;
                case 16: numbers[i] = (short) v; break;
                default: numbers[i] = v; break;
            }
        }

        /** The difference can't wrap round, but the sum of a from and an n of any size could. */
        boolean hasPart(int from, int n) {
            return from >= 0 && n >= 0 && n <= length && from <= length - n;
        }
    }

    /** The bytes that a text is read from, and the token of them that was read last. */
    private static final class Tape {
        private static final int END = 0;
        private static final int WORD = 1;
        private static final int NUMBER = 2;
        private static final int SIGN = 3;
        private static final int OTHER = 4;
        private static final int MOST_NUMBER = 999;

        final int[] bytes = new int[MOST_BYTES];
        int length;
        private int sort;
        private int begin;
        private int end;
        private int value;

        void put(int one) {
            if (length < MOST_BYTES) {
                bytes[length] = one;
                length++;
            }
        }

        /** How many items, each so on the square at once; -1 less the fault if there is one. */
        int readText(Square square) {
            end = 0;
            for (int items = 1; items <= MOST_BYTES; items++) {
                readOn();
                if (!readItem(square)) {
                    return -1 - begin;
                }
                if (sort == END) {
                    return items;
                }
                if (sort != SIGN) {
                    return -1 - begin;
                }
            }
            return -1 - begin;
        }

        private void readOn() {
            begin = end;
            while (begin < length && isBetween(begin, ' ', ' ')) {
                begin++;
            }
            end = begin;
            if (begin >= length) {
                sort = END;
            } else if (isBetween(begin, 'a', 'z')) {
                sort = WORD;
                readRun('a', 'z');
            } else if (isBetween(begin, '0', '9')) {
                sort = NUMBER;
                readRun('0', '9');
                value = valueOfRun();
            } else {
                sort = isBetween(begin, ';', ';') ? SIGN : OTHER;
                end = begin + 1;
            }
        }

        private void readRun(char low, char high) {
            while (end < length && isBetween(end, low, high)) {
                end++;
            }
        }

        private boolean isBetween(int at, char low, char high) {
            return at >= 0 && at < length && bytes[at] >= low && bytes[at] <= high;
        }

        /** Above the most that a number can be its digits count no more, so that none wraps round. */
        private int valueOfRun() {
            int sum = 0;
            for (int at = begin; at < end && sum <= MOST_NUMBER; at++) {
                sum = sum * 10 + (bytes[at] - '0');
            }
            return sum;
        }

        // Each of these that answers false has read the token last that can't stand where it is.

        private boolean readItem(Square square) {
            int kind = kindOfWord();
            if (kind >= 0) {
                return readStall(square, kind);
            }
            if (isWord("visits")) {
                return readVisits(square);
            }
            if (isWord("shade")) {
                return readShade(square, 1);
            }
            if (isWord("sun")) {
                return readShade(square, 0);
            }
            return isWord("spring") && readSpring(square);
        }

        private boolean readStall(Square square, int kind) {
            if (square.stalls >= MOST_STALLS) {
                return false;
            }
            readOn();
            if (!isWord("at")) {
                return false;
            }
            readOn();
            if (!isNumber(0, PLACES - 1) || square.stallAt(value) >= 0) {
                return false;
            }
            int stall = square.addStall(kind, value);
            readOn();
            if (!isWord("goods")) {
                return true;
            }
            readOn();
            if (!isNumber(0, MOST_GOODS)) {
                return false;
            }
            square.goodsOf[stall] = value;
            readOn();
            return true;
        }

        private boolean readVisits(Square square) {
            readOn();
            if (!isNumber(0, PLACES - 1)) {
                return false;
            }
            int from = value;
            int to = value;
            readOn();
            if (isWord("to")) {
                readOn();
                if (!isNumber(from, PLACES - 1)) {
                    return false;
                }
                to = value;
                readOn();
            }
            if (!isWord("are")) {
                return false;
            }
            readOn();
            if (!isNumber(0, MOST_VISITS)) {
                return false;
            }
            for (int place = from; place <= to; place++) {
                square.visitsAt[place] = value;
            }
            readOn();
            return true;
        }

        private boolean readShade(Square square, int is) {
            readOn();
            if (!isNumber(0, PLACES - 1)) {
                return false;
            }
            square.shadeAt[value] = is;
            readOn();
            return true;
        }

        private boolean readSpring(Square square) {
            readOn();
            if (!isNumber(0, PLACES - 1)) {
                return false;
            }
            square.springAt = value;
            readOn();
            return true;
        }

        private boolean isNumber(int least, int most) {
            return sort == NUMBER && value >= least && value <= most;
        }

        private int kindOfWord() {
            for (int kind = 0; kind < KINDS; kind++) {
                if (isWord(wordOfKind(kind))) {
                    return kind;
                }
            }
            return -1;
        }

        private boolean isWord(String word) {
            if (sort != WORD || end > length || word.length() != end - begin) {
                return false;
            }
            for (int k = 0; k < word.length(); k++) {
                if (bytes[begin + k] != word.charAt(k)) {
                    return false;
                }
            }
            return true;
        }

        private static String wordOfKind(int kind) {
            switch (kind) {
                case DOUBLE: return "double";
                case IDLE: return "idle";
                case SHADED: return "shaded";
                case LAZY: return "lazy";
                case BLIND: return "blind";
                case CHEESE: return "cheese";
                default: return "stall";
            }
        }
    }
}
