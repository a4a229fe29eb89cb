/**
 * A station's board of flaps, as DOC.md tells it in numbered promises.
 *
 * A BOARD is held as its beginning and the DEEDS done since, so that undoing and going on from a
 * kept one are the same thing: to do a list of DEEDS again. Every row that a call needs is made by
 * the constructor; no call makes an object.
 */
public final class FlapBoard {
    public static final int BAD = -1, FULL = -2, FINDING = -3, STATE = -4, SPENT = -6, NONE = -9;

    private static final int NOTHING = 1, BEYOND = 2, UNLIKE = 3, NOUGHT = 4, SIZE = 5;
    private static final int FINDINGS = 5;

    private static final int ROWS = 6, ROW_MOST = 40, TEXTS = 4, TEXT_MOST = 60, KEPT = 3;
    private static final int MISSING = -1;

    private static final int DRUMS_LEAST = 2, DRUMS_MOST = 7, FIGURES = 10, POWER_MOST = 9;
    private static final int FLAP = 0, SLOW = 1, SKIP = 2, BACK = 3, STICKY = 4, QUICK = 5, KINDS = 6;
    private static final int[] LETTERS = {102, 115, 107, 98, 116, 113};
    private static final int BLANK = 32, NOUGHT_SIGN = 48;

    private static final int DEEDS_MOST = 40, TICK_MOST = 99;
    private static final int DEED_TICK = 0, DEED_AIM = 1, DEED_POWER = 2, DEED_JAM = 3, DEED_IDLE = 4;

    private static final int AHEAD_MOST = 60, LOOK_MOST = 20, MESSAGES_MOST = 5, TURNS_MOST = 2;
    private static final int TWELFTHS = 12, LOTS_MOST = 20;
    private static final long LOT_FACTOR = 48271L, LOT_MODULUS = 2147483647L;
    private static final int COUNTS = 13, DRUM_FACTS = 7, TICKS_MARKED = 8;

    private final Row[] rows = new Row[ROWS];
    private final Text[] texts = new Text[TEXTS];
    private final Board start = new Board();
    private final Board now = new Board();
    private final Board aside = new Board();
    private final Board aimed = new Board();
    private final Deeds deeds = new Deeds();
    private final Deeds[] kept = new Deeds[KEPT];
    private final OrderSearch orderSearch = new OrderSearch();
    private final int[] numbers = new int[AHEAD_MOST + 1];
    private final int[][] looks = new int[KINDS][LOOK_MOST + 1];
    private final long[] weights = new long[DRUMS_MOST + 1];
    private final Share share = new Share();
    private final int[] findingCounts = new int[FINDINGS + 1];
    private int latestFinding;
    private int latestAsked;

    public FlapBoard() {
        for (int r = 0; r < ROWS; r++) {
            rows[r] = new Row();
        }
        for (int t = 0; t < TEXTS; t++) {
            texts[t] = new Text();
        }
        for (int k = 0; k < KEPT; k++) {
            kept[k] = new Deeds();
            kept[k].size = MISSING;
        }
    }

    // ---- 1 rows, texts, boards

    public int row(int r, int n) {
        if (!isRow(r) || n > ROW_MOST) {
            return BAD;
        }
        if (n < 0) {
            return found(SIZE);
        }
        rows[r].begin(n);
        return n;
    }

    public int lay(int r, int i, int v) {
        int refused = placeRefused(r, i);
        if (refused != 0) {
            return refused;
        }
        latestAsked = rows[r].ints[i];
        rows[r].ints[i] = v;
        return 1;
    }

    public int at(int r, int i) {
        int refused = placeRefused(r, i);
        if (refused != 0) {
            return refused;
        }
        latestAsked = rows[r].ints[i];
        return 1;
    }

    public int tear(int r) {
        int refused = rowRefused(r);
        if (refused != 0) {
            return refused;
        }
        rows[r].size = MISSING;
        return 1;
    }

    public int copy(int r, int i, int to, int j, int n) {
        if (!isRow(r) || !isRow(to)) {
            return BAD;
        }
        if (n < 0) {
            return found(SIZE);
        }
        if (rows[r].isMissing() || rows[to].isMissing()) {
            return found(NOTHING);
        }
        if (!rows[r].holds(i, n) || !rows[to].holds(j, n)) {
            return found(BEYOND);
        }
        System.arraycopy(rows[r].ints, i, rows[to].ints, j, n);
        return 1;
    }

    public int mean(int r) {
        int refused = rowRefused(r);
        if (refused != 0) {
            return refused;
        }
        if (rows[r].size == 0) {
            return found(NOUGHT);
        }
        long sum = 0;
        for (int i = 0; i < rows[r].size; i++) {
            sum += rows[r].ints[i];
        }
        latestAsked = (int) (sum / rows[r].size);
        return 1;
    }

    public int text(int t, int n) {
        if (!isText(t) || n > TEXT_MOST) {
            return BAD;
        }
        if (n < 0) {
            return found(SIZE);
        }
        texts[t].begin(n);
        return n;
    }

    public int put(int t, int i, int v) {
        int refused = textRefused(t);
        if (refused != 0) {
            return refused;
        }
        if (i < 0 || i >= texts[t].size) {
            return found(BEYOND);
        }
        int was = texts[t].bytes[i];
        texts[t].bytes[i] = (byte) v;
        return was + 1000;
    }

    public int fault(int t) {
        int refused = textRefused(t);
        return refused != 0 ? refused : Reader.read(texts[t], aside);
    }

    public int board(int t) {
        int refused = textRefused(t);
        if (refused != 0) {
            return refused;
        }
        if (Reader.read(texts[t], aside) != NONE) {
            return STATE;
        }
        start.become(aside);
        doAgain(0);
        for (int k = 0; k < KEPT; k++) {
            kept[k].size = MISSING;
        }
        return now.drums;
    }

    public int drum(int i, int what) {
        if (!isDrum(i) || what < 0 || what >= DRUM_FACTS) {
            return BAD;
        }
        latestAsked = drumFact(i, what);
        return 1;
    }

    public int mark(int i, int kind) {
        if (!isDrum(i) || kind <= FLAP || kind >= KINDS) {
            return BAD;
        }
        if (!isOf(now.kind[i], kind)) {
            return found(UNLIKE);
        }
        switch (kind) {
            case SLOW:
                return dueTicks(i, now.kind[i]);
            case SKIP:
                return figuresNeverShown(i);
            case BACK:
                return Math.floorMod(now.shows[i] - now.goal[i], FIGURES);
            case STICKY:
                return dueTicks(i, SLOW) - dueTicks(i, STICKY);
            default:
                return Math.floorMod(now.afterTurn(i) - now.shows[i], FIGURES);
        }
    }

    // ---- 2 deeds

    public int tick() {
        if (now.drums == 0 || now.ticks >= TICK_MOST) {
            return STATE;
        }
        if (deeds.isFull(1)) {
            return FULL;
        }
        int before = now.turns;
        carryOut(DEED_TICK, 0, 0);
        return now.turns - before;
    }

    public int aim(int i, int f) {
        if (!isDrum(i) || f < 0 || f >= FIGURES) {
            return BAD;
        }
        int was = now.goal[i];
        if (was == f) {
            return STATE;
        }
        if (deeds.isFull(1)) {
            return FULL;
        }
        carryOut(DEED_AIM, i, f);
        return was;
    }

    public int power(int n) {
        if (n < 1 || n > POWER_MOST) {
            return BAD;
        }
        int was = now.power;
        if (now.drums == 0 || was == n) {
            return STATE;
        }
        if (deeds.isFull(1)) {
            return FULL;
        }
        carryOut(DEED_POWER, 0, n);
        return was;
    }

    public int jam(int i) {
        if (!isDrum(i)) {
            return BAD;
        }
        if (deeds.isFull(1)) {
            return FULL;
        }
        carryOut(DEED_JAM, i, 0);
        return Integer.bitCount(now.jammed);
    }

    public int undo(int n) {
        if (n < 0 || n > deeds.size) {
            return BAD;
        }
        int undone = deeds.size - n;
        doAgain(n);
        return undone;
    }

    public int keep(int k) {
        if (k < 0 || k >= KEPT) {
            return BAD;
        }
        if (now.drums == 0) {
            return STATE;
        }
        kept[k].become(deeds);
        return deeds.size;
    }

    public int on(int k) {
        if (k < 0 || k >= KEPT) {
            return BAD;
        }
        if (kept[k].size == MISSING) {
            return found(NOTHING);
        }
        deeds.become(kept[k]);
        doAgain(deeds.size);
        return deeds.size;
    }

    // ---- 3 what comes

    public int later(int n) {
        if (n < 0 || n > AHEAD_MOST) {
            return BAD;
        }
        if (now.drums == 0) {
            return STATE;
        }
        aside.become(now);
        aside.stepOn(n);
        latestAsked = aside.turns - now.turns;
        return aside.number();
    }

    public int ends() {
        if (now.drums == 0) {
            return STATE;
        }
        aside.become(now);
        int ticks = aside.ticksTillTold(AHEAD_MOST);
        if (ticks > AHEAD_MOST) {
            return NONE;
        }
        latestAsked = aside.turns - now.turns;
        return ticks;
    }

    public int passes() {
        if (now.drums == 0) {
            return STATE;
        }
        aside.become(now);
        numbers[0] = aside.number();
        int shown = 1;
        int greatest = numbers[0];
        for (int t = 0; t < AHEAD_MOST && !aside.isTold(); t++) {
            aside.step();
            int number = aside.number();
            greatest = Math.max(greatest, number);
            if (!isAmongNumbers(number, shown)) {
                numbers[shown] = number;
                shown++;
            }
        }
        latestAsked = greatest;
        return shown;
    }

    // ---- 4 what to do

    public int least() {
        if (now.drums == 0) {
            return STATE;
        }
        int soonest = ticksByPower(POWER_MOST);
        if (soonest > AHEAD_MOST) {
            return NONE;
        }
        int power = 1;
        while (power < POWER_MOST && ticksByPower(power) > soonest) {
            power++;
        }
        latestAsked = soonest;
        return power;
    }

    public int soonest(int r) {
        if (!isRow(r)) {
            return BAD;
        }
        int refused = messagesRefused(r);
        if (refused != 0) {
            return refused;
        }
        int first = NONE;
        int fewest = AHEAD_MOST + 1;
        for (int i = 0; i < rows[r].size; i++) {
            aside.become(now);
            aside.aimAt(rows[r].ints[i]);
            int ticks = aside.ticksTillTold(fewest - 1);
            if (ticks < fewest) {
                fewest = ticks;
                first = i;
            }
        }
        if (first != NONE) {
            latestAsked = fewest;
        }
        return first;
    }

    public int order(int r, int to) {
        if (!isRow(r) || !isRow(to)) {
            return BAD;
        }
        int refused = messagesRefused(r);
        if (refused != 0) {
            return refused;
        }
        int messages = rows[r].size;
        int ticks = orderSearch.search(now, rows[r]);
        if (ticks != NONE) {
            rows[to].begin(messages);
            System.arraycopy(orderSearch.best, 0, rows[to].ints, 0, messages);
        }
        return ticks;
    }

    // ---- 5 which drum it is

    public int kinds(int i, int r) {
        int refused = showedRefused(i, r);
        return refused != 0 ? refused : kindsThatShowed(i, rows[r]);
    }

    public int marks(int i, int r) {
        int refused = showedRefused(i, r);
        if (refused != 0) {
            return refused;
        }
        int bits = 0;
        for (int mark = 0; mark < FIGURES; mark++) {
            if (wouldHaveShown(i, now.kind[i], mark, rows[r])) {
                bits |= 1 << mark;
            }
        }
        return bits;
    }

    public int test(int i, int r) {
        int refused = showedRefused(i, r);
        if (refused != 0) {
            return refused;
        }
        int bits = kindsThatShowed(i, rows[r]);
        if (bits == 0) {
            return NONE;
        }
        lookAhead(i, bits);
        int first = NONE;
        int least = KINDS + 1;
        for (int t = 1; t <= LOOK_MOST; t++) {
            int part = greatestPart(bits, t);
            if (part < least) {
                least = part;
                first = t;
            }
        }
        latestAsked = least;
        return first;
    }

    // ---- 6 by turns

    public int duel(int n) {
        if (n < 0 || n > TURNS_MOST) {
            return BAD;
        }
        if (now.drums == 0) {
            return STATE;
        }
        if (n == 0) {
            aside.become(now);
            return aside.ticksTillTold(AHEAD_MOST);
        }
        return latestByAiming(n == TURNS_MOST);
    }

    // ---- 7 chances, lots

    public int odds(int k, int n, int p) {
        if (k < 0 || k > DRUMS_MOST || !areChances(n, p)) {
            return BAD;
        }
        if (now.drums == 0) {
            return STATE;
        }
        weighRightOnes(n, p);
        long upper = 0;
        for (int right = k; right <= DRUMS_MOST; right++) {
            upper += weights[right];
        }
        share.tell(upper, weightOfAll());
        return 1;
    }

    public int mid(int n, int p) {
        if (!areChances(n, p)) {
            return BAD;
        }
        if (now.drums == 0) {
            return STATE;
        }
        weighRightOnes(n, p);
        long upper = 0;
        for (int right = 0; right <= DRUMS_MOST; right++) {
            upper += right * weights[right];
        }
        share.tell(upper, weightOfAll());
        return 1;
    }

    public int lots(int n, int seed) {
        if (n < 1 || n > LOTS_MOST || seed < 1 || seed >= LOT_MODULUS) {
            return BAD;
        }
        if (now.drums == 0) {
            return STATE;
        }
        if (deeds.isFull(n)) {
            return FULL;
        }
        long lot = seed;
        for (int i = 0; i < n; i++) {
            lot = lot * LOT_FACTOR % LOT_MODULUS;
            carryOutLot(lot);
        }
        return now.number();
    }

    // ---- 8 what is told

    public int asked() {
        return latestAsked;
    }

    public long upper() {
        return share.top;
    }

    public long lower() {
        return share.bottom;
    }

    public int count(int what) {
        return what < 0 || what >= COUNTS ? BAD : countOf(what);
    }

    public int finding() {
        return latestFinding;
    }

    public int findings(int f) {
        return f < 1 || f > FINDINGS ? BAD : findingCounts[f];
    }

    public long digest() {
        long h = 17;
        for (int what = 0; what < COUNTS; what++) {
            h = 31 * h + countOf(what);
        }
        for (int i = 0; i < now.drums; i++) {
            for (int what = 0; what < DRUM_FACTS; what++) {
                h = 31 * h + drumFact(i, what);
            }
        }
        for (int k = 0; k < KEPT; k++) {
            h = 31 * h + kept[k].size;
        }
        for (int r = 0; r < ROWS; r++) {
            h = rows[r].digestFrom(h);
        }
        for (int t = 0; t < TEXTS; t++) {
            h = texts[t].digestFrom(h);
        }
        return h;
    }

    // ---- refusals

    private int found(int f) {
        latestFinding = f;
        findingCounts[f]++;
        return FINDING;
    }

    private static boolean isRow(int r) {
        return r >= 0 && r < ROWS;
    }

    private static boolean isText(int t) {
        return t >= 0 && t < TEXTS;
    }

    private boolean isDrum(int i) {
        return i >= 0 && i < now.drums;
    }

    private static boolean areChances(int n, int p) {
        return n >= 0 && n <= LOOK_MOST && p >= 0 && p <= TWELFTHS;
    }

    /** The refusal of a ROW that must be there; 0: it is. */
    private int rowRefused(int r) {
        if (!isRow(r)) {
            return BAD;
        }
        return rows[r].isMissing() ? found(NOTHING) : 0;
    }

    /** The refusal of a place of a ROW; 0: it is there. */
    private int placeRefused(int r, int i) {
        int refused = rowRefused(r);
        if (refused != 0) {
            return refused;
        }
        return i < 0 || i >= rows[r].size ? found(BEYOND) : 0;
    }

    /** The refusal of a TEXT that must be there; 0: it is. */
    private int textRefused(int t) {
        if (!isText(t)) {
            return BAD;
        }
        return texts[t].isMissing() ? found(NOTHING) : 0;
    }

    /** The refusal of messages, their ROW's number being one; 0: none. */
    private int messagesRefused(int r) {
        if (now.drums == 0) {
            return STATE;
        }
        if (rows[r].isMissing()) {
            return found(NOTHING);
        }
        if (rows[r].size == 0 || rows[r].size > MESSAGES_MOST) {
            return found(SIZE);
        }
        return rows[r].isWithin(raised(FIGURES, now.drums) - 1) ? 0 : found(UNLIKE);
    }

    /** The refusal of what a DRUM is said to have SHOWED; 0: none. */
    private int showedRefused(int i, int r) {
        if (!isDrum(i) || !isRow(r)) {
            return BAD;
        }
        if (rows[r].isMissing()) {
            return found(NOTHING);
        }
        if (rows[r].size == 0 || rows[r].size > LOOK_MOST) {
            return found(SIZE);
        }
        return rows[r].isWithin(FIGURES - 1) ? 0 : found(UNLIKE);
    }

    // ---- what a drum, the board tells of itself

    private int drumFact(int i, int what) {
        switch (what) {
            case 0:
                return now.kind[i];
            case 1:
                return now.shows[i];
            case 2:
                return now.goal[i];
            case 3:
                return now.mark[i];
            case 4:
                return now.isJammed(i) ? 1 : 0;
            case 5:
                return now.isReady(i) ? 1 : 0;
            default:
                return now.afterTurn(i);
        }
    }

    private int countOf(int what) {
        switch (what) {
            case 0:
                return now.drums;
            case 1:
                return now.ticks;
            case 2:
                return deeds.size;
            case 3:
                return now.number();
            case 4:
                return now.turns;
            case 5:
                return now.jammed;
            case 6:
                return now.rightOnes();
            case 7:
                return now.power;
            case 8:
                return rowsThere();
            case 9:
                return textsThere();
            case 10:
                return keptThere();
            case 11:
                return now.drumsOf(SLOW);
            default:
                return now.drumsOf(SKIP);
        }
    }

    private int rowsThere() {
        int there = 0;
        for (int r = 0; r < ROWS; r++) {
            there += rows[r].isMissing() ? 0 : 1;
        }
        return there;
    }

    private int textsThere() {
        int there = 0;
        for (int t = 0; t < TEXTS; t++) {
            there += texts[t].isMissing() ? 0 : 1;
        }
        return there;
    }

    private int keptThere() {
        int there = 0;
        for (int k = 0; k < KEPT; k++) {
            there += kept[k].size == MISSING ? 0 : 1;
        }
        return there;
    }

    /** In how many of the TICKS from now on a DRUM would turn, were it of a KIND, its GOAL left aside. */
    private int dueTicks(int i, int kind) {
        aside.become(now);
        aside.kind[i] = kind;
        int due = 0;
        for (int t = 0; t < TICKS_MARKED; t++) {
            due += aside.isDue(i) ? 1 : 0;
            aside.ticks++;
        }
        return due;
    }

    private int figuresNeverShown(int i) {
        aside.become(now);
        aside.shows[i] = 0;
        int shown = 1;
        // Among ten figures, ten turns lead to each one that is ever shown.
        for (int turn = 0; turn < FIGURES; turn++) {
            aside.shows[i] = aside.afterTurn(i);
            shown |= 1 << aside.shows[i];
        }
        return FIGURES - Integer.bitCount(shown);
    }

    /** Whether one of a KIND is one of another KIND, too. */
    private static boolean isOf(int kind, int other) {
        return kind == other || other == FLAP || kind == STICKY && other == SLOW || kind == QUICK && other == SKIP;
    }

    // ---- deeds

    private void carryOut(int what, int drum, int value) {
        int deed = Deeds.packed(what, drum, value);
        deeds.add(deed);
        now.carryOut(deed);
    }

    /** The BOARD as it was behind its first n DEEDS, the others forgotten. */
    private void doAgain(int n) {
        now.become(start);
        for (int d = 0; d < n; d++) {
            now.carryOut(deeds.list[d]);
        }
        deeds.size = n;
    }

    private void carryOutLot(long lot) {
        if (now.drums == 0) {
            return;
        }
        int drum = (int) (lot / 8 % now.drums);
        int which = (int) (lot % 8);
        if (which == 0) {
            carryOut(DEED_JAM, drum, 0);
        } else if (which <= 2) {
            carryOut(DEED_AIM, drum, (int) (lot / 64 % FIGURES));
        } else {
            carryOut(now.ticks < TICK_MOST ? DEED_TICK : DEED_IDLE, 0, 0);
        }
    }

    // ---- what comes, what to do

    private boolean isAmongNumbers(int number, int size) {
        for (int i = 0; i < size; i++) {
            if (numbers[i] == number) {
                return true;
            }
        }
        return false;
    }

    private int ticksByPower(int power) {
        aside.become(now);
        aside.power = power;
        return aside.ticksTillTold(AHEAD_MOST);
    }

    // ---- which drum it is

    private boolean wouldHaveShown(int i, int kind, int mark, Row showed) {
        aside.become(now);
        aside.kind[i] = kind;
        aside.mark[i] = mark;
        for (int t = 0; t < showed.size; t++) {
            aside.step();
            if (aside.shows[i] != showed.ints[t]) {
                return false;
            }
        }
        return true;
    }

    private int kindsThatShowed(int i, Row showed) {
        int bits = 0;
        for (int kind = 0; kind < KINDS; kind++) {
            if (wouldHaveShown(i, kind, now.mark[i], showed)) {
                bits |= 1 << kind;
            }
        }
        return bits;
    }

    /** Fills looks: by KIND what the DRUM would SHOW behind 1, 2, .. TICKS. */
    private void lookAhead(int i, int bits) {
        for (int kind = 0; kind < KINDS; kind++) {
            if ((bits >> kind & 1) != 0) {
                aside.become(now);
                aside.kind[i] = kind;
                for (int t = 1; t <= LOOK_MOST; t++) {
                    aside.step();
                    looks[kind][t] = aside.shows[i];
                }
            }
        }
    }

    /** How many KINDS at the most SHOW the same figure behind t TICKS. */
    private int greatestPart(int bits, int t) {
        int greatest = 0;
        for (int figure = 0; figure < FIGURES; figure++) {
            int part = 0;
            for (int kind = 0; kind < KINDS; kind++) {
                part += (bits >> kind & 1) != 0 && looks[kind][t] == figure ? 1 : 0;
            }
            greatest = Math.max(greatest, part);
        }
        return greatest;
    }

    // ---- by turns

    /** The most TICKS that the first one can make it take, answered by the other one or not. */
    private int latestByAiming(boolean answered) {
        int latest = -1;
        for (int i = 0; i < now.drums; i++) {
            for (int f = 0; f < FIGURES && latest <= AHEAD_MOST; f++) {
                aimed.become(now);
                aimed.goal[i] = f;
                int ticks = answered ? soonestByAiming(latest) : aimed.ticksTillTold(AHEAD_MOST);
                latest = Math.max(latest, ticks);
            }
        }
        return latest;
    }

    /** The fewest TICKS by aiming a DRUM once more; or some number up to enough, if they are as few. */
    private int soonestByAiming(int enough) {
        int soonest = AHEAD_MOST + 1;
        // Drums told to stay come first: such an answer is often the best, and the rest is cut short.
        for (int on = 0; on < FIGURES && soonest > enough; on++) {
            for (int i = 0; i < aimed.drums && soonest > enough; i++) {
                aside.become(aimed);
                aside.goal[i] = (aimed.shows[i] + on) % FIGURES;
                soonest = aside.ticksTillTold(soonest - 1);
            }
        }
        return soonest;
    }

    // ---- chances

    /** Fills weights: by how many DRUMS are right, the weight (of weightOfAll) of the jams that lead there. */
    private void weighRightOnes(int n, int p) {
        for (int right = 0; right <= DRUMS_MOST; right++) {
            weights[right] = 0;
        }
        int free = freeOnes();
        for (int jams = 0; jams < 1 << now.drums; jams++) {
            if ((jams & now.jammed) == 0) {
                aside.become(now);
                aside.jammed |= jams;
                aside.stepOn(n);
                int jamming = Integer.bitCount(jams);
                weights[Integer.bitCount(aside.rightOnes())] += raised(p, jamming) * raised(TWELFTHS - p, free - jamming);
            }
        }
    }

    private int freeOnes() {
        return now.drums - Integer.bitCount(now.jammed);
    }

    private long weightOfAll() {
        return raised(TWELFTHS, freeOnes());
    }

    private static int raised(int base, int exponent) {
        int product = 1;
        for (int i = 0; i < exponent; i++) {
            product *= base;
        }
        return product;
    }

    // ---- the parts

    /** A row of ints, or a missing one. */
    private static final class Row {
        final int[] ints = new int[ROW_MOST];
        int size = MISSING;

        boolean isMissing() {
            return size == MISSING;
        }

        void begin(int n) {
            size = n;
            for (int i = 0; i < n; i++) {
                ints[i] = 0;
            }
        }

        /** Whether there are n places from one on; taken away, as a sum might run over. */
        boolean holds(int from, int n) {
            return from >= 0 && from <= size && n <= size - from;
        }

        boolean isWithin(int most) {
            for (int i = 0; i < size; i++) {
                if (ints[i] < 0 || ints[i] > most) {
                    return false;
                }
            }
            return true;
        }

        long digestFrom(long before) {
            long h = 31 * before + size;
            for (int i = 0; i < size; i++) {
                h = 31 * h + ints[i];
            }
            return h;
        }
    }

    /** A row of bytes, or a missing one. */
    private static final class Text {
        final byte[] bytes = new byte[TEXT_MOST];
        int size = MISSING;

        boolean isMissing() {
            return size == MISSING;
        }

        void begin(int n) {
            size = n;
            for (int i = 0; i < n; i++) {
                bytes[i] = BLANK;
            }
        }

        boolean isFigure(int place, int least) {
            return place < size && bytes[place] >= NOUGHT_SIGN + least && bytes[place] < NOUGHT_SIGN + FIGURES;
        }

        int figure(int place) {
            return bytes[place] - NOUGHT_SIGN;
        }

        /** The KIND by the letter at a place; NONE: there is none such, or the end. */
        int kind(int place) {
            for (int kind = 0; kind < KINDS && place < size; kind++) {
                if (bytes[place] == LETTERS[kind]) {
                    return kind;
                }
            }
            return NONE;
        }

        /** The first place from one on that is no blank; the size, if there is none. */
        int pastBlanks(int from) {
            int place = from;
            while (place < size && bytes[place] == BLANK) {
                place++;
            }
            return place;
        }

        long digestFrom(long before) {
            long h = 31 * before + size;
            for (int i = 0; i < size; i++) {
                h = 31 * h + bytes[i];
            }
            return h;
        }
    }

    /** Reads a BOARD's TEXT. */
    private static final class Reader {
        /** The FAULT; NONE: there is none, and what was read stands in the BOARD. */
        static int read(Text text, Board into) {
            int place = text.pastBlanks(0);
            if (!text.isFigure(place, 1)) {
                return place;
            }
            into.begin(text.figure(place));
            place = text.pastBlanks(place + 1);
            for (int d = 0; d < DRUMS_MOST && place < text.size; d++) {
                int fault = faultOfDrum(text, place);
                if (fault != NONE) {
                    return fault;
                }
                into.addDrum(text.kind(place), text.figure(place + 1), text.figure(place + 2));
                place = text.pastBlanks(place + 3);
            }
            return place < text.size || into.drums < DRUMS_LEAST ? place : NONE;
        }

        private static int faultOfDrum(Text text, int place) {
            if (text.kind(place) == NONE) {
                return place;
            }
            if (!text.isFigure(place + 1, 0)) {
                return place + 1;
            }
            return text.isFigure(place + 2, 0) ? NONE : place + 2;
        }
    }

    /** The DRUMS, the POWER and the TICK as they stand. */
    private static final class Board {
        final int[] kind = new int[DRUMS_MOST];
        final int[] shows = new int[DRUMS_MOST];
        final int[] goal = new int[DRUMS_MOST];
        final int[] mark = new int[DRUMS_MOST];
        int drums;
        int power;
        int ticks;
        int turns;
        int jammed;

        void become(Board other) {
            System.arraycopy(other.kind, 0, kind, 0, other.drums);
            System.arraycopy(other.shows, 0, shows, 0, other.drums);
            System.arraycopy(other.goal, 0, goal, 0, other.drums);
            System.arraycopy(other.mark, 0, mark, 0, other.drums);
            drums = other.drums;
            power = other.power;
            ticks = other.ticks;
            turns = other.turns;
            jammed = other.jammed;
        }

        /** Without DRUMS, at first. */
        void begin(int withPower) {
            drums = 0;
            power = withPower;
            ticks = 0;
            turns = 0;
            jammed = 0;
        }

        void addDrum(int ofKind, int figure, int marked) {
            if (drums < DRUMS_MOST) {
                kind[drums] = ofKind;
                shows[drums] = figure;
                goal[drums] = figure;
                mark[drums] = marked;
                drums++;
            }
        }

        boolean isJammed(int i) {
            return (jammed >> i & 1) != 0;
        }

        boolean isReady(int i) {
            return shows[i] != goal[i] && isDue(i);
        }

        /** Whether it is READY in this TICK, if it does not SHOW its GOAL. */
        boolean isDue(int i) {
            if (kind[i] == STICKY && shows[i] == mark[i]) {
                return ticks % 4 == 0;
            }
            return ticks % 2 == 0 || kind[i] != SLOW && kind[i] != STICKY;
        }

        /** What it SHOWS behind a TURN, READY or not. */
        int afterTurn(int i) {
            switch (kind[i]) {
                case BACK:
                    return (shows[i] + FIGURES - 1) % FIGURES;
                case SKIP:
                    return skippedFrom(shows[i], i);
                case QUICK:
                    int first = skippedFrom(shows[i], i);
                    return first == goal[i] ? first : skippedFrom(first, i);
                default:
                    return (shows[i] + 1) % FIGURES;
            }
        }

        private int skippedFrom(int figure, int i) {
            int next = (figure + 1) % FIGURES;
            return next == mark[i] && mark[i] != goal[i] ? (next + 1) % FIGURES : next;
        }

        /** A TICK goes by. */
        void step() {
            int left = power;
            for (int i = 0; i < drums && left > 0; i++) {
                if (isReady(i) && !isJammed(i)) {
                    shows[i] = afterTurn(i);
                    turns++;
                    left--;
                }
            }
            ticks++;
        }

        void stepOn(int n) {
            for (int t = 0; t < n; t++) {
                step();
            }
        }

        boolean isTold() {
            for (int i = 0; i < drums; i++) {
                if (shows[i] != goal[i]) {
                    return false;
                }
            }
            return true;
        }

        /** Those that SHOW their GOALS, by bits. */
        int rightOnes() {
            int bits = 0;
            for (int i = 0; i < drums; i++) {
                if (shows[i] == goal[i]) {
                    bits |= 1 << i;
                }
            }
            return bits;
        }

        int drumsOf(int ofKind) {
            int of = 0;
            for (int i = 0; i < drums; i++) {
                of += isOf(kind[i], ofKind) ? 1 : 0;
            }
            return of;
        }

        /** What THE BOARD SHOWS; 0 without DRUMS. */
        int number() {
            int number = 0;
            for (int i = 0; i < drums; i++) {
                number = number * FIGURES + shows[i];
            }
            return number;
        }

        void aimAt(int message) {
            int rest = message;
            for (int i = drums - 1; i >= 0; i--) {
                goal[i] = rest % FIGURES;
                rest /= FIGURES;
            }
        }

        /** Goes on till it is TOLD: behind how many TICKS that is; one more than the most: not by then. */
        int ticksTillTold(int most) {
            // A drum jammed at a false figure never comes right: no tick needs to be tried.
            if ((jammed & ~rightOnes()) != 0) {
                return most + 1;
            }
            int t = 0;
            while (t <= most && !isTold()) {
                step();
                t++;
            }
            return t;
        }

        void carryOut(int deed) {
            int i = Deeds.drumOf(deed);
            switch (Deeds.whatOf(deed)) {
                case DEED_TICK:
                    step();
                    break;
                case DEED_AIM:
                    goal[i] = Deeds.valueOf(deed);
                    break;
                case DEED_POWER:
                    power = Deeds.valueOf(deed);
                    break;
                case DEED_JAM:
                    jammed ^= 1 << i;
                    break;
                default:
                    break;
            }
        }
    }

    /** What was done, each DEED packed into one number; or, of a kept BOARD, missing. */
    private static final class Deeds {
        final int[] list = new int[DEEDS_MOST];
        int size;

        static int packed(int what, int drum, int value) {
            return what << 8 | drum << 4 | value;
        }

        static int whatOf(int deed) {
            return deed >> 8;
        }

        static int drumOf(int deed) {
            return deed >> 4 & 15;
        }

        static int valueOf(int deed) {
            return deed & 15;
        }

        boolean isFull(int more) {
            return size + more > DEEDS_MOST;
        }

        void add(int deed) {
            if (size < DEEDS_MOST) {
                list[size] = deed;
                size++;
            }
        }

        void become(Deeds other) {
            System.arraycopy(other.list, 0, list, 0, other.size);
            size = other.size;
        }
    }

    /** Finds the order of messages that takes fewest TICKS, trying them by rising places. */
    private static final class OrderSearch {
        private static final int TOO_MANY = MESSAGES_MOST * AHEAD_MOST + 1;
        final int[] best = new int[MESSAGES_MOST];
        private final int[] tried = new int[MESSAGES_MOST];
        private final Board[] behind = new Board[MESSAGES_MOST + 1];
        private int fewest;

        OrderSearch() {
            for (int m = 0; m <= MESSAGES_MOST; m++) {
                behind[m] = new Board();
            }
        }

        /** How many TICKS the best order takes; NONE: in no order is each TOLD. */
        int search(Board from, Row messages) {
            fewest = TOO_MANY;
            behind[0].become(from);
            goOn(messages, 0, 0, 0);
            return fewest == TOO_MANY ? NONE : fewest;
        }

        /** Tries all that is left behind some that are told, used (bits), in so many TICKS. */
        private void goOn(Row messages, int told, int used, int ticks) {
            if (told >= messages.size || told >= MESSAGES_MOST) {
                fewest = ticks;
                System.arraycopy(tried, 0, best, 0, told);
                return;
            }
            Board next = behind[told + 1];
            for (int place = 0; place < messages.size; place++) {
                if ((used >> place & 1) == 0) {
                    next.become(behind[told]);
                    next.aimAt(messages.ints[place]);
                    int more = next.ticksTillTold(AHEAD_MOST);
                    // Only what takes fewer is taken, so that the first of several stays.
                    if (more <= AHEAD_MOST && ticks + more < fewest) {
                        tried[told] = place;
                        goOn(messages, told + 1, used | 1 << place, ticks + more);
                    }
                }
            }
        }
    }

    /** A number told as an upper one by a lower one, in lowest terms. */
    private static final class Share {
        long top = 0;
        long bottom = 1;

        void tell(long upper, long lower) {
            long divisor = commonDivisor(upper, lower);
            if (divisor > 0) {
                top = upper / divisor;
                bottom = lower / divisor;
            }
        }

        private static long commonDivisor(long a, long b) {
            long greater = a;
            long rest = b;
            // Euclid's way takes far fewer steps than this for any two longs.
            for (int i = 0; i < 200 && rest != 0; i++) {
                long left = greater % rest;
                greater = rest;
                rest = left;
            }
            return greater;
        }
    }
}
