import java.util.Arrays;

/**
 * The time clock at the gate: cards in a rack, the workers who have them, and what days make of both.
 * Words in capitals are the terms of the document that numbers what is promised.
 */
public final class PunchedSouls {
    public static final int NONE = -1, BAD = -2, STATE = -3, FULL = -4;
    public static final long NO = Long.MIN_VALUE;

    /** Stands for NONE where an ordinary answer may be below 0. */
    private static final int NO_NUMBER = -1001;
    private static final int NOT_THERE = -5;
    private static final int NOTHING = -11, CAST = -12, PLACE = -13, SIZE = -14;
    private static final int FAULT_BASE = -10;
    private static final int ENDED_EARLY = 100;

    private static final int HAND = 0, LATE = 1, LAD = 2, OLD = 3, BLINKER = 4, MINDER = 5, TOLD = 6;

    private static final int MOST_WORKERS = 6;
    private static final int MOST_WORKS = 6;
    private static final int MOST_BYTES = 100;
    private static final int MOST_CLAUSES = 10;
    private static final int MOST_NESTED = 4;
    private static final int MOST_SEEN = 5;
    private static final int MOST_PLAN = 10;
    private static final int MOST_BOOK = 8;
    private static final int MOST_TRACE = 20;

    private static final int SLOTS = 10;
    private static final int ALL_HOLES = 1023;
    private static final int ROW_PARTS = 4;
    private static final int LAST_DAY = 9999;
    private static final int MOST_DAYS = 60;
    private static final int MOST_SEEN_DAYS = 20;
    private static final int TRADE_DAYS = 20;
    private static final int MOST_ODDS_HOLES = 60;

    private static final int TAPES = 6;
    private static final int MOST_ITEMS = 60;
    private static final int NO_ROW = -1, BYTES = 0, SHORTS = 1, INTS = 2, LONGS = 3, BOOLEANS = 4;

    private final Gate now = new Gate();
    /** Where asked days go, so that what is asked changes nothing and makes nothing. */
    private final Gate trial = new Gate();
    private final Gate kept = new Gate();
    private boolean isKept;

    private final char[] text = new char[MOST_BYTES];
    private int textSize;
    private int worksCount;
    /** THE TRACE, a sign for each body. */
    private final StringBuilder ran = new StringBuilder();

    /** TEMPER of each WORKER (row by row) with each CARD, for BEST. */
    private final int[] tempers = new int[MOST_WORKERS * MOST_WORKERS];
    /** By the set of CARDS given to the first WORKERS: the greatest TEMPER of those who are left, together. */
    private final int[] greatest = new int[1 << MOST_WORKERS];

    private final int[] sorts = new int[TAPES];
    private final int[] lengths = new int[TAPES];
    /** The rows of all TAPES, one behind the other. */
    private final long[] items = new long[TAPES * MOST_ITEMS];

    public PunchedSouls() {
        Arrays.fill(sorts, NO_ROW);
    }

    // ---- workers, works, cards

    public int worker(int kind, int v) {
        if (!isKind(kind)) {
            return NONE;
        }
        if (!isDigit(v)) {
            return BAD;
        }
        if (now.size >= MOST_WORKERS) {
            return FULL;
        }
        return now.hire(made(kind, now.size, v));
    }

    public int of(int worker, int what) {
        if (!isWorker(worker)) {
            return NO_NUMBER;
        }
        Hand hand = now.workers[worker];
        int card = now.has[worker];
        switch (what) {
            case 0:
                return hand.kind();
            case 1:
                return hand.v;
            case 2:
                return now.isAtHome(worker) ? 1 : 0;
            case 3:
                return card;
            case 4:
                return now.ringOf(worker);
            case 5:
                return now.temper(worker, card);
            case 6:
                return hand.punches(now.day, now.holes[card], now.rowSlot(worker));
            default:
                return isWorker(what - 10) ? now.temper(worker, what - 10) : NO_NUMBER;
        }
    }

    public int set(int card, int holes) {
        if (!isWorker(card)) {
            return NONE;
        }
        if (!areHoles(holes)) {
            return BAD;
        }
        int before = now.holes[card];
        now.holes[card] = holes;
        return before;
    }

    public int swap(int one, int other) {
        if (!isWorker(one) || !isWorker(other)) {
            return NONE;
        }
        if (one == other) {
            return BAD;
        }
        now.exchange(one, other);
        return now.has[one];
    }

    public int stay(int worker, boolean is) {
        if (!isWorker(worker)) {
            return NONE;
        }
        int before = now.isAtHome(worker) ? 1 : 0;
        now.keepAtHome(worker, is);
        return before;
    }

    public int row(int worker, int part, int n) {
        if (!isWorker(worker) || part < 0 || part >= ROW_PARTS) {
            return NONE;
        }
        if (!isDigit(n)) {
            return BAD;
        }
        if (now.workers[worker].kind() != TOLD) {
            return STATE;
        }
        int place = ROW_PARTS * worker + part;
        int before = now.rows[place];
        now.rows[place] = n;
        return before;
    }

    public int feed(int sign) {
        if (sign < 0 || sign > 127) {
            return BAD;
        }
        if (textSize >= MOST_BYTES) {
            return FULL;
        }
        text[textSize] = (char) sign;
        textSize++;
        return textSize;
    }

    public int works() {
        if (worksCount >= MOST_WORKS) {
            return FULL;
        }
        Reader reader = new Reader(text, textSize);
        textSize = 0;
        if (!reader.isWorks()) {
            return FAULT_BASE - reader.at;
        }
        now.holding = reader.works;
        worksCount++;
        return worksCount - 1;
    }

    public int told(int what) {
        switch (what) {
            case 0:
                return now.day;
            case 1:
                return now.round();
            case 2:
                return now.allHoles();
            case 3:
                return now.allTemper();
            case 4:
                return now.size - now.rings();
            case 5:
                return firstSwap();
            case 6:
                return sparingSwap();
            default:
                return isWorker(what - 10) ? now.holes[what - 10] : NO_NUMBER;
        }
    }

    // ---- days

    public int pass(int n) {
        if (!areDays(n)) {
            return BAD;
        }
        if (now.day > LAST_DAY - n) {
            return STATE;
        }
        now.goDays(n);
        return now.day;
    }

    public int on(int n, int what) {
        boolean ofCard = isWorker(what - 10);
        boolean ofWorker = isWorker(what - 20);
        if (what != 0 && !ofCard && !ofWorker) {
            return NONE;
        }
        if (!areDays(n)) {
            return BAD;
        }
        trial.follow(now);
        trial.goDays(n);
        if (ofCard) {
            return trial.holes[what - 10];
        }
        return ofWorker ? trial.has[what - 20] : trial.allHoles();
    }

    public int full(int card, int q) {
        if (!isWorker(card)) {
            return NONE;
        }
        if (q < 0 || q > SLOTS) {
            return BAD;
        }
        trial.follow(now);
        for (int days = 0; days <= MOST_DAYS; days++) {
            if (Integer.bitCount(trial.holes[card]) >= q) {
                return days;
            }
            trial.goDay();
        }
        return NOT_THERE;
    }

    public int best(int what) {
        if (what != 0 && !isWorker(what - 10)) {
            return NO_NUMBER;
        }
        weighAllWays();
        return what == 0 ? greatest[0] : bestCard(what - 10);
    }

    // ---- seen, odds

    public int see(int card, int holes, int n) {
        if (card == -1) {
            now.seen.size = 0;
            return 0;
        }
        if (!isWorker(card)) {
            return NONE;
        }
        if (!areHoles(holes) || n < 0 || n > MOST_SEEN_DAYS) {
            return BAD;
        }
        return now.seen.add(card, holes, n);
    }

    public int had(int worker) {
        if (!isWorker(worker)) {
            return NONE;
        }
        int cards = 0;
        for (int c = 0; c < now.size; c++) {
            trial.follow(now);
            trial.exchange(worker, trial.holder(c));
            if (trialMeetsSeen()) {
                cards |= 1 << c;
            }
        }
        return cards;
    }

    public int can(int worker, int what) {
        if (!isWorker(worker) || what < 0 || what > 1) {
            return NONE;
        }
        int kind = now.workers[worker].kind();
        int count = 0;
        int least = NOT_THERE;
        for (int v = 9; v >= 0; v--) {
            trial.follow(now);
            trial.workers[worker] = made(kind, worker, v);
            if (trialMeetsSeen()) {
                count++;
                least = v;
            }
        }
        return what == 0 ? count : least;
    }

    public long odds(int n, int q, int part) {
        if (now.size == 0 || !areDays(n) || q < 0 || q > MOST_ODDS_HOLES || part < 0 || part > 1) {
            return NO;
        }
        int cases = 0;
        for (int p = 0; p < now.size; p++) {
            trial.follow(now);
            trial.keepAtHome(p, true);
            trial.goDays(n);
            if (trial.allHoles() <= q) {
                cases++;
            }
        }
        return ofFraction(cases, now.size, part);
    }

    public long mean(int n, int part) {
        if (now.size == 0 || !areDays(n) || part < 0 || part > 1) {
            return NO;
        }
        trial.follow(now);
        trial.goDays(n);
        return ofFraction(trial.allHoles(), now.size, part);
    }

    // ---- plans, books

    public int plan(int what, int n) {
        if (what == -1) {
            now.plan.size = 0;
            return 0;
        }
        if (what < Gate.A_DAY || what > Gate.COMES_BACK) {
            return NONE;
        }
        if (what == Gate.A_SWAP) {
            if (n < 0 || !isWorker(n / 10) || !isWorker(n % 10)) {
                return NONE;
            }
            if (n / 10 == n % 10) {
                return BAD;
            }
        } else if (what != Gate.A_DAY && !isWorker(n)) {
            return NONE;
        }
        return now.plan.add(what, n, 0);
    }

    public int ends(int what) {
        if (what < 0 || what > 1) {
            return NO_NUMBER;
        }
        trial.follow(now);
        for (int i = 0; i < now.plan.size; i++) {
            trial.goPlanned(now.plan.first[i], now.plan.second[i]);
        }
        return what == 0 ? trial.allHoles() : trial.allTemper();
    }

    public int book(int card, int holes) {
        if (card == -1) {
            now.book.size = 0;
            return 0;
        }
        if (!isWorker(card)) {
            return NONE;
        }
        if (!areHoles(holes)) {
            return BAD;
        }
        return now.book.add(card, holes, 0);
    }

    public int looked() {
        Rows book = now.book;
        for (int i = 0; i < book.size; i++) {
            if (now.holes[book.first[i]] != book.second[i]) {
                return i;
            }
        }
        return NOT_THERE;
    }

    // ---- judging, the image, acts, tapes

    public int judge(int tape, int i) {
        if (!isTape(tape)) {
            return NONE;
        }
        if (sorts[tape] != NO_ROW && sorts[tape] != SHORTS) {
            return CAST;
        }
        for (int c = 0; c < now.size; c++) {
            if (!isPlace(tape, i + c)) {
                return ENDED_EARLY + c;
            }
            if (items[MOST_ITEMS * tape + i + c] != now.holes[c]) {
                return c;
            }
        }
        return NOT_THERE;
    }

    public int image() {
        kept.become(now);
        isKept = true;
        return now.size;
    }

    public int undo() {
        if (!isKept) {
            return STATE;
        }
        now.become(kept);
        return now.size;
    }

    public int act(int worker, int act, int x) {
        ran.setLength(0);
        if (!isWorker(worker)) {
            return 0;
        }
        Hand hand = now.workers[worker];
        switch (act) {
            case 0:
                return hand.toils(ran, x);
            case 1:
                return hand.minds(ran, x);
            case 2:
                return hand.tells(ran, x);
            default:
                return 0;
        }
    }

    public int trace(int i) {
        if (i < 0 || i >= MOST_TRACE || i >= ran.length()) {
            return NONE;
        }
        return ran.charAt(i);
    }

    public int taken(int worker, int k) {
        if (!isKind(k)) {
            return BAD;
        }
        if (!isWorker(worker)) {
            return NOTHING;
        }
        Hand hand = now.workers[worker];
        return isUnder(hand, k) ? hand.kind() : CAST;
    }

    public int count(int what) {
        switch (what) {
            case 0:
                return now.size;
            case 1:
                return worksCount;
            case 2:
                return now.seen.size;
            case 3:
                return now.plan.size;
            case 4:
                return now.book.size;
            case 5:
                return textSize;
            case 6:
                return ran.length();
            default:
                return BAD;
        }
    }

    public int tape(int tape, int sort, int n) {
        if (!isTape(tape)) {
            return NONE;
        }
        if (sort == NO_ROW) {
            sorts[tape] = NO_ROW;
            lengths[tape] = 0;
            return 1;
        }
        if (sort < BYTES || sort > BOOLEANS || n > MOST_ITEMS) {
            return BAD;
        }
        if (n < 0) {
            return SIZE;
        }
        sorts[tape] = sort;
        lengths[tape] = n;
        for (int i = 0; i < n; i++) {
            items[MOST_ITEMS * tape + i] = 0;
        }
        return 1;
    }

    public int item(int tape, int i, long v) {
        if (!isTape(tape)) {
            return NONE;
        }
        if (sorts[tape] == NO_ROW) {
            return NOTHING;
        }
        if (!isPlace(tape, i)) {
            return PLACE;
        }
        items[MOST_ITEMS * tape + i] = fitted(sorts[tape], v);
        return 1;
    }

    public long read(int tape, int i) {
        if (!isTape(tape) || !isPlace(tape, i)) {
            return NO;
        }
        return items[MOST_ITEMS * tape + i];
    }

    public int shift(int tape, int i, int other, int j, int n) {
        if (!isTape(tape) || !isTape(other)) {
            return NONE;
        }
        if (sorts[tape] == NO_ROW || sorts[other] == NO_ROW) {
            return NOTHING;
        }
        if (sorts[tape] != sorts[other]) {
            return CAST;
        }
        if (n < 0 || i < 0 || j < 0 || i > lengths[tape] - n || j > lengths[other] - n) {
            return PLACE;
        }
        System.arraycopy(items, MOST_ITEMS * tape + i, items, MOST_ITEMS * other + j, n);
        return n;
    }

    // ---- what numbers are as told

    private static boolean isKind(int kind) {
        return kind >= HAND && kind <= TOLD;
    }

    private static boolean isDigit(int n) {
        return n >= 0 && n <= 9;
    }

    private static boolean areHoles(int holes) {
        return holes >= 0 && holes <= ALL_HOLES;
    }

    private static boolean areDays(int n) {
        return n >= 0 && n <= MOST_DAYS;
    }

    /** Of CARDS, too: there is one of each WORKER. */
    private boolean isWorker(int number) {
        return number >= 0 && number < now.size;
    }

    private static boolean isTape(int tape) {
        return tape >= 0 && tape < TAPES;
    }

    /** Asked of a TAPE's number; one that holds nothing has the length 0. */
    private boolean isPlace(int tape, int i) {
        return i >= 0 && i < lengths[tape];
    }

    private static long fitted(int sort, long v) {
        switch (sort) {
            case BYTES:
                return (byte) v;
            case SHORTS:
                return (short) v;
            case INTS:
                return (int) v;
            case LONGS:
                return v;
            default:
                return v != 0 ? 1 : 0;
        }
    }

    // ---- kinds

    private static Hand made(int kind, int number, int v) {
        switch (kind) {
            case LATE:
                return new Late(number, v);
            case LAD:
                return new Lad(number, v);
            case OLD:
                return new Old(number, v);
            case BLINKER:
                return new Blinker(number, v);
            case MINDER:
                return new Minder(number, v);
            case TOLD:
                return new Told(number, v);
            default:
                return new Hand(number, v);
        }
    }

    private static boolean isUnder(Hand hand, int kind) {
        switch (kind) {
            case LATE:
                return hand instanceof Late;
            case LAD:
                return hand instanceof Lad;
            case OLD:
                return hand instanceof Old;
            case BLINKER:
                return hand instanceof Blinker;
            case MINDER:
                return hand instanceof Minder;
            case TOLD:
                return hand instanceof Told;
            default:
                return true;
        }
    }

    // ---- what is asked

    private int firstSwap() {
        for (int p = 0; p < now.size; p++) {
            if (now.has[p] != p) {
                // All lesser ones have their own, so who has this one's is greater.
                return 10 * p + now.holder(p);
            }
        }
        return NOT_THERE;
    }

    private int sparingSwap() {
        int least = mostHolesAfterSwap(0, 0);
        int found = NOT_THERE;
        for (int a = 0; a < now.size; a++) {
            for (int b = a + 1; b < now.size; b++) {
                int most = mostHolesAfterSwap(a, b);
                if (most < least) {
                    least = most;
                    found = 10 * a + b;
                }
            }
        }
        return found;
    }

    /** One with itself: as it is. */
    private int mostHolesAfterSwap(int one, int other) {
        trial.follow(now);
        trial.exchange(one, other);
        trial.goDays(TRADE_DAYS);
        return trial.mostHoles();
    }

    private void weighAllWays() {
        int size = now.size;
        for (int p = 0; p < size; p++) {
            for (int c = 0; c < size; c++) {
                tempers[MOST_WORKERS * p + c] = now.temper(p, c);
            }
        }
        int all = (1 << size) - 1;
        greatest[all] = 0;
        for (int given = all - 1; given >= 0; given--) {
            greatest[given] = with(given, firstBest(given));
        }
    }

    /** Of the CARDS not given, the first by which the next WORKER and those behind it are best. */
    private int firstBest(int given) {
        int found = -1;
        for (int c = 0; c < now.size; c++) {
            boolean isFree = (given >> c & 1) == 0;
            if (isFree && (found < 0 || with(given, c) > with(given, found))) {
                found = c;
            }
        }
        return Math.max(found, 0);
    }

    private int with(int given, int card) {
        int worker = Integer.bitCount(given);
        return tempers[MOST_WORKERS * worker + card] + greatest[given | 1 << card];
    }

    private int bestCard(int worker) {
        int given = 0;
        for (int p = 0; p < worker; p++) {
            given |= 1 << firstBest(given);
        }
        return firstBest(given);
    }

    /** Lets the days of the trial go as far as SEEN tells. */
    private boolean trialMeetsSeen() {
        Rows seen = now.seen;
        int last = seen.greatestThird();
        for (int days = 0; days <= last; days++) {
            for (int i = 0; i < seen.size; i++) {
                if (seen.third[i] == days && trial.holes[seen.first[i]] != seen.second[i]) {
                    return false;
                }
            }
            trial.goDay();
        }
        return true;
    }

    private static long ofFraction(int above, int below, int part) {
        int divisor = commonDivisor(above, below);
        if (divisor == 0) {
            return NO;
        }
        return (part == 0 ? above : below) / divisor;
    }

    private static int commonDivisor(int a, int b) {
        int greater = a;
        int lesser = b;
        // Every second step at least halves what is left, so 64 steps are enough for any two ints.
        for (int i = 0; i < 64 && lesser != 0; i++) {
            int rest = greater % lesser;
            greater = lesser;
            lesser = rest;
        }
        return greater;
    }

    /** All that THE IMAGE holds; days go here. */
    private static final class Gate {
        static final int A_DAY = 0, A_SWAP = 1, STAYS_AT_HOME = 2, COMES_BACK = 3;

        final Hand[] workers = new Hand[MOST_WORKERS];
        final int[] holes = new int[MOST_WORKERS];
        final int[] has = new int[MOST_WORKERS];
        /** The ROW of each WORKER, of which the TOLD make use. */
        final int[] rows = new int[MOST_WORKERS * ROW_PARTS];
        int size;
        /** WORKERS, as bits. */
        int atHome;
        int day;
        /** The WORKS that holds; null: there is none. */
        Works holding;
        final Rows seen = new Rows(MOST_SEEN);
        final Rows plan = new Rows(MOST_PLAN);
        final Rows book = new Rows(MOST_BOOK);

        void become(Gate other) {
            follow(other);
            seen.become(other.seen);
            plan.become(other.plan);
            book.become(other.book);
        }

        /** Takes over all but what is told by hand, which days don't touch. */
        void follow(Gate other) {
            for (int p = 0; p < MOST_WORKERS; p++) {
                workers[p] = other.workers[p];
            }
            System.arraycopy(other.holes, 0, holes, 0, MOST_WORKERS);
            System.arraycopy(other.has, 0, has, 0, MOST_WORKERS);
            System.arraycopy(other.rows, 0, rows, 0, MOST_WORKERS * ROW_PARTS);
            size = other.size;
            atHome = other.atHome;
            day = other.day;
            holding = other.holding;
        }

        int hire(Hand hand) {
            int number = size;
            workers[number] = hand;
            // HOLES, ROW and AT HOME are 0 at numbers that nobody has, behind an undo(), too: THE IMAGE has them so.
            has[number] = number;
            size++;
            return number;
        }

        boolean isAtHome(int worker) {
            return (atHome >> worker & 1) != 0;
        }

        void keepAtHome(int worker, boolean is) {
            atHome = is ? atHome | 1 << worker : atHome & ~(1 << worker);
        }

        void exchange(int one, int other) {
            int card = has[one];
            has[one] = has[other];
            has[other] = card;
        }

        int holder(int card) {
            int found = 0;
            for (int p = 0; p < size; p++) {
                if (has[p] == card) {
                    found = p;
                }
            }
            return found;
        }

        int ringOf(int worker) {
            int length = 1;
            for (int p = has[worker]; p != worker && length < size; p = has[p]) {
                length++;
            }
            return length;
        }

        int rings() {
            int count = 0;
            int met = 0;
            for (int p = 0; p < size; p++) {
                if ((met >> p & 1) == 0) {
                    count++;
                    int next = p;
                    for (int steps = ringOf(p); steps > 0; steps--) {
                        met |= 1 << next;
                        next = has[next];
                    }
                }
            }
            return count;
        }

        int allHoles() {
            int sum = 0;
            for (int c = 0; c < size; c++) {
                sum += Integer.bitCount(holes[c]);
            }
            return sum;
        }

        int mostHoles() {
            int most = 0;
            for (int c = 0; c < size; c++) {
                most = Math.max(most, Integer.bitCount(holes[c]));
            }
            return most;
        }

        int temper(int worker, int card) {
            Hand hand = workers[worker];
            int holeCount = Integer.bitCount(holes[card]);
            int mood = 10 - holeCount;
            if (holding != null) {
                mood += holding.moodOf(hand, card, holeCount, day % 10);
            }
            return hand.temper(mood, card);
        }

        int allTemper() {
            int sum = 0;
            for (int p = 0; p < size; p++) {
                sum += temper(p, has[p]);
            }
            return sum;
        }

        int round() {
            return holding == null ? 0 : holding.round;
        }

        int rowSlot(int worker) {
            return rows[ROW_PARTS * worker + day % ROW_PARTS];
        }

        void goDays(int n) {
            for (int i = 0; i < n; i++) {
                goDay();
            }
        }

        void goDay() {
            for (int p = 0; p < size; p++) {
                if (!isAtHome(p)) {
                    int card = has[p];
                    holes[card] |= workers[p].punches(day, holes[card], rowSlot(p));
                }
            }
            day++;
            int round = round();
            if (round > 0 && day % round == 0) {
                goRound();
            }
        }

        void goRound() {
            // The CARD of 0 goes from hand to hand till the last one has it.
            for (int p = 0; p < size - 1; p++) {
                exchange(p, p + 1);
            }
        }

        void goPlanned(int what, int n) {
            switch (what) {
                case A_SWAP:
                    exchange(n / 10, n % 10);
                    break;
                case STAYS_AT_HOME:
                    keepAtHome(n, true);
                    break;
                case COMES_BACK:
                    keepAtHome(n, false);
                    break;
                default:
                    goDay();
                    break;
            }
        }
    }

    /** Rows of up to three numbers that are told by hand. */
    private static final class Rows {
        final int[] first;
        final int[] second;
        final int[] third;
        int size;

        Rows(int most) {
            first = new int[most];
            second = new int[most];
            third = new int[most];
        }

        /** How many there are then, or FULL. */
        int add(int one, int two, int three) {
            if (size >= first.length) {
                return FULL;
            }
            first[size] = one;
            second[size] = two;
            third[size] = three;
            size++;
            return size;
        }

        void become(Rows other) {
            System.arraycopy(other.first, 0, first, 0, other.size);
            System.arraycopy(other.second, 0, second, 0, other.size);
            System.arraycopy(other.third, 0, third, 0, other.size);
            size = other.size;
        }

        /** -1 without rows. */
        int greatestThird() {
            int found = -1;
            for (int i = 0; i < size; i++) {
                found = Math.max(found, third[i]);
            }
            return found;
        }
    }

    /**
     * CLAUSES as steps that work on a pile of truths: a TEST (its sign is the step) lays one down, ! & |
     * work on the upper ones, and g or s takes the last one off for a glad or a sour.
     */
    private static final class Works {
        private final int[] steps;
        private final int[] letters;
        private final int[] numbers;
        private int size;
        int round;

        /** No step is read from less than a byte. */
        Works(int bytes) {
            steps = new int[bytes];
            letters = new int[bytes];
            numbers = new int[bytes];
        }

        void add(int step, int letter, int number) {
            if (size < steps.length) {
                steps[size] = step;
                letters[size] = letter;
                numbers[size] = number;
                size++;
            }
        }

        /** All that is glad, less all that is sour. */
        int moodOf(Hand hand, int card, int holeCount, int dayDigit) {
            int mood = 0;
            // The lowest bit is the top; brackets are within 4 at most, so no more than 11 lie here at once.
            int pile = 0;
            for (int i = 0; i < size; i++) {
                int top = pile & 1;
                switch (steps[i]) {
                    case '!':
                        pile ^= 1;
                        break;
                    case '&':
                        pile = pile >> 1 & (~1 | top);
                        break;
                    case '|':
                        pile = pile >> 1 | top;
                        break;
                    case 'g':
                        pile >>= 1;
                        mood += top * numbers[i];
                        break;
                    case 's':
                        pile >>= 1;
                        mood -= top * numbers[i];
                        break;
                    default:
                        int value = valueOf(letters[i], hand, card, holeCount, dayDigit);
                        pile = pile << 1 | (isSo(value, steps[i], numbers[i]) ? 1 : 0);
                        break;
                }
            }
            return mood;
        }

        private static int valueOf(int letter, Hand hand, int card, int holeCount, int dayDigit) {
            switch (letter) {
                case 'p':
                    return hand.number;
                case 'c':
                    return card;
                case 'k':
                    return hand.kind();
                case 'v':
                    return hand.v;
                case 'h':
                    return holeCount;
                default:
                    return dayDigit;
            }
        }

        private static boolean isSo(int value, int sign, int number) {
            switch (sign) {
                case '<':
                    return value < number;
                case '=':
                    return value == number;
                default:
                    return value > number;
            }
        }
    }

    /** Reads a WORKS; where it stands when it gives up is the FAULT. */
    private static final class Reader {
        private static final int END = -1;

        private final char[] text;
        private final int size;
        final Works works;
        int at;

        Reader(char[] text, int size) {
            this.text = text;
            this.size = size;
            works = new Works(size);
        }

        boolean isWorks() {
            for (int clauses = 1; clauses <= MOST_CLAUSES; clauses++) {
                if (!isClause()) {
                    return false;
                }
                if (at == size) {
                    return true;
                }
                if (clauses == MOST_CLAUSES || !takes(';')) {
                    return false;
                }
            }
            return false;
        }

        private boolean isClause() {
            int word = sign();
            if (!spells(word == 'r' ? "round " : word == 's' ? "sour " : "glad ")) {
                return false;
            }
            int n = number();
            if (n < 0) {
                return false;
            }
            if (word == 'r') {
                works.round = n;
                return true;
            }
            if (!takes(' ') || !isEither(0)) {
                return false;
            }
            works.add(word, 0, n);
            return true;
        }

        /** Reads an E; & binds its two sooner than |, which waits till no & follows. */
        private boolean isEither(int within) {
            boolean hasOr = false;
            boolean hasAnd = false;
            for (int factors = 0; factors < MOST_BYTES; factors++) {
                if (!isFactor(within)) {
                    return false;
                }
                if (hasAnd) {
                    works.add('&', 0, 0);
                }
                hasAnd = takes('&');
                if (!hasAnd) {
                    if (hasOr) {
                        works.add('|', 0, 0);
                    }
                    hasOr = takes('|');
                    if (!hasOr) {
                        return true;
                    }
                }
            }
            return false;
        }

        private boolean isFactor(int within) {
            int sign = sign();
            if (sign != '!' && sign != '(') {
                return isTest();
            }
            if (within >= MOST_NESTED) {
                return false;
            }
            at++;
            if (sign == '(') {
                return isEither(within + 1) && takes(')');
            }
            if (!isFactor(within + 1)) {
                return false;
            }
            works.add('!', 0, 0);
            return true;
        }

        private boolean isTest() {
            int letter = sign();
            if (letter == END || "pckvhd".indexOf((char) letter) < 0) {
                return false;
            }
            at++;
            int relation = sign();
            if (relation != '<' && relation != '=' && relation != '>') {
                return false;
            }
            at++;
            int n = number();
            if (n < 0) {
                return false;
            }
            works.add(relation, letter, n);
            return true;
        }

        /** Of 1 or 2 digits; -1: there is none. */
        private int number() {
            int first = sign() - '0';
            if (!isDigit(first)) {
                return -1;
            }
            at++;
            int second = sign() - '0';
            if (!isDigit(second)) {
                return first;
            }
            at++;
            return 10 * first + second;
        }

        private boolean spells(String word) {
            for (int i = 0; i < word.length(); i++) {
                if (!takes(word.charAt(i))) {
                    return false;
                }
            }
            return true;
        }

        private boolean takes(char wanted) {
            if (sign() != wanted) {
                return false;
            }
            at++;
            return true;
        }

        private int sign() {
            return at < size ? text[at] : END;
        }
    }

    /** A WORKER, and KIND 0; what never changes of it. Its bodies tell ran that they began. */
    private static class Hand {
        final int number;
        final int v;

        Hand(int number, int v) {
            this.number = number;
            this.v = v;
        }

        int kind() {
            return HAND;
        }

        int temper(int mood, int card) {
            return mood;
        }

        /** SLOTS as bits, on a CARD with such HOLES; rowSlot: what its ROW tells for the day. */
        int punches(int day, int holes, int rowSlot) {
            return 1 << day % SLOTS;
        }

        int toils(StringBuilder ran, int x) {
            ran.append((char) 10);
            return x + number;
        }

        int minds(StringBuilder ran, int x) {
            ran.append((char) 11);
            return toils(ran, x) - v;
        }

        int tells(StringBuilder ran, int x) {
            ran.append((char) 12);
            return minds(ran, x) * 2;
        }

        /** The SLOTS some further (0 .. 10) than these; behind 9 comes 0. */
        static int further(int slots, int by) {
            return (slots << by | slots >> SLOTS - by) & ALL_HOLES;
        }
    }

    private static class Late extends Hand {
        Late(int number, int v) {
            super(number, v);
        }

        int kind() {
            return LATE;
        }

        int punches(int day, int holes, int rowSlot) {
            return day % 3 == 0 ? 0 : super.punches(day, holes, rowSlot);
        }

        int minds(StringBuilder ran, int x) {
            ran.append((char) 20);
            return super.minds(ran, x) ^ 6;
        }
    }

    private static class Lad extends Hand {
        Lad(int number, int v) {
            super(number, v);
        }

        int kind() {
            return LAD;
        }

        int temper(int mood, int card) {
            return card == number ? mood : mood + v;
        }

        int punches(int day, int holes, int rowSlot) {
            return 1 << (v + day) % SLOTS;
        }

        int toils(StringBuilder ran, int x) {
            ran.append((char) 30);
            return super.toils(ran, x * 3);
        }
    }

    private static class Old extends Hand {
        Old(int number, int v) {
            super(number, v);
        }

        int kind() {
            return OLD;
        }

        int temper(int mood, int card) {
            return mood / 2;
        }

        int punches(int day, int holes, int rowSlot) {
            int free = ~holes & ALL_HOLES;
            return free & -free;
        }

        int tells(StringBuilder ran, int x) {
            ran.append((char) 40);
            return super.tells(ran, x) + minds(ran, 1);
        }
    }

    private static final class Blinker extends Late {
        Blinker(int number, int v) {
            super(number, v);
        }

        int kind() {
            return BLINKER;
        }

        int punches(int day, int holes, int rowSlot) {
            int slot = super.punches(day, holes, rowSlot);
            return slot | further(slot, 1);
        }

        int toils(StringBuilder ran, int x) {
            ran.append((char) 50);
            return -super.toils(ran, x);
        }

        int minds(StringBuilder ran, int x) {
            ran.append((char) 51);
            return super.minds(ran, x + 1);
        }
    }

    private static final class Minder extends Lad {
        Minder(int number, int v) {
            super(number, v);
        }

        int kind() {
            return MINDER;
        }

        int punches(int day, int holes, int rowSlot) {
            int slot = super.punches(day, holes, rowSlot);
            return (slot & holes) == 0 ? slot : further(slot, 5);
        }

        int tells(StringBuilder ran, int x) {
            ran.append((char) 60);
            return super.tells(ran, x - number);
        }
    }

    private static final class Told extends Old {
        Told(int number, int v) {
            super(number, v);
        }

        int kind() {
            return TOLD;
        }

        int punches(int day, int holes, int rowSlot) {
            return super.punches(day, holes, rowSlot) | 1 << rowSlot;
        }

        int minds(StringBuilder ran, int x) {
            ran.append((char) 70);
            return super.minds(ran, x) + super.toils(ran, 2);
        }

        int toils(StringBuilder ran, int x) {
            ran.append((char) 71);
            return super.toils(ran, x) ^ v;
        }
    }
}
