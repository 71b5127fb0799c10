import java.util.Arrays;

/** A strike, told day by day: who offers what, who takes it, what is lost, and who goes back first. */
public final class StrikeDays {
    public static final int BAD = -1, FULL = -2, FINDING = -3, STATE = -4, NONE = -9;

    private static final int FINE = 0;
    private static final int NOTHING = 1, BEYOND = 2, UNLIKE = 3, NOUGHT = 4, SIZE = 5;
    private static final int MEN = 0, OWNERS = 1, SIDES = 2;
    private static final int OFFER = 1, TAKE = 2, VOTE = 3, BACK = 4;
    private static final int ROWS = 6, ROW_LIMIT = 40, TEXTS = 4, TEXT_LIMIT = 60, WAYS = 8;
    private static final int SORTS = 3, SETS = 8, DAYS = 10, TOP_WAGE = 12, NEVER_TAKEN = 13;
    private static final int KINDS = 6, LONGEST = 99, TWELVE = 12;
    private static final int MISSING = -1, BLANK = 32, BYTE_SHIFT = 1000;
    private static final int LAW_NOTICES = 4, LAW_TWELFTHS = 3;

    private final Cells[] rows = new Cells[ROWS];
    private final Cells[] texts = new Cells[TEXTS];
    private final Way[] ways = new Way[WAYS];
    private final Quarrel quarrel = new Quarrel();
    private final Law law = new Law();
    private final Law trialLaw = new Law();
    private final Reader reader = new Reader();
    private final Runs runs = new Runs(quarrel, law);
    private final Runs trialRuns = new Runs(quarrel, trialLaw);
    private final Bests bests = new Bests(quarrel, law);
    private final Strikers strikers = new Strikers();
    private final Fraction fraction = new Fraction();
    private final Findings findings = new Findings();
    private int asked = 0;

    public StrikeDays() {
        for (int r = 0; r < ROWS; r++) {
            rows[r] = new Cells(ROW_LIMIT);
        }
        for (int t = 0; t < TEXTS; t++) {
            texts[t] = new Cells(TEXT_LIMIT);
        }
        for (int w = 0; w < WAYS; w++) {
            ways[w] = new Way();
        }
    }

    // ---- 1 rows, texts, the quarrel

    public int row(int r, int n) {
        if (!isRow(r) || n > ROW_LIMIT) {
            return BAD;
        }
        if (n < 0) {
            return findings.tell(SIZE);
        }
        rows[r].make(n, 0);
        return n;
    }

    public int lay(int r, int i, int v) {
        if (!isRow(r)) {
            return BAD;
        }
        if (rows[r].isMissing()) {
            return findings.tell(NOTHING);
        }
        if (!rows[r].holds(i, 1)) {
            return findings.tell(BEYOND);
        }
        asked = rows[r].swap(i, v);
        return 1;
    }

    public int tear(int r) {
        if (!isRow(r)) {
            return BAD;
        }
        if (rows[r].isMissing()) {
            return findings.tell(NOTHING);
        }
        rows[r].drop();
        return 1;
    }

    public int copy(int r, int i, int to, int j, int n) {
        if (!isRow(r) || !isRow(to)) {
            return BAD;
        }
        if (n < 0) {
            return findings.tell(SIZE);
        }
        if (rows[r].isMissing() || rows[to].isMissing()) {
            return findings.tell(NOTHING);
        }
        if (!rows[r].holds(i, n) || !rows[to].holds(j, n)) {
            return findings.tell(BEYOND);
        }
        rows[to].take(j, rows[r], i, n);
        return 1;
    }

    public int mean(int r) {
        if (!isRow(r)) {
            return BAD;
        }
        if (rows[r].isMissing()) {
            return findings.tell(NOTHING);
        }
        if (rows[r].size() == 0) {
            return findings.tell(NOUGHT);
        }
        asked = rows[r].middle();
        return 1;
    }

    public int text(int t, int n) {
        if (!isText(t) || n > TEXT_LIMIT) {
            return BAD;
        }
        if (n < 0) {
            return findings.tell(SIZE);
        }
        texts[t].make(n, BLANK);
        return n;
    }

    public int put(int t, int i, int v) {
        if (!isText(t)) {
            return BAD;
        }
        if (texts[t].isMissing()) {
            return findings.tell(NOTHING);
        }
        if (!texts[t].holds(i, 1)) {
            return findings.tell(BEYOND);
        }
        return BYTE_SHIFT + texts[t].swap(i, (byte) v);
    }

    public int fault(int t) {
        if (!isText(t)) {
            return BAD;
        }
        if (texts[t].isMissing()) {
            return findings.tell(NOTHING);
        }
        return reader.read(texts[t]);
    }

    public int quarrel(int t) {
        if (!isText(t)) {
            return BAD;
        }
        if (texts[t].isMissing()) {
            return findings.tell(NOTHING);
        }
        if (reader.read(texts[t]) != NONE) {
            return STATE;
        }
        quarrel.become(reader.draft());
        return quarrel.sorts(MEN) + quarrel.sorts(OWNERS);
    }

    public int told(int what) {
        if (!within(what, 0, 8)) {
            return BAD;
        }
        asked = ofQuarrel(what);
        return 1;
    }

    public int sort(int side, int s, int what) {
        if (!quarrel.hasSort(side, s) || !within(what, 0, 1)) {
            return BAD;
        }
        asked = what == 0 ? quarrel.chance(side, s) : quarrel.cost(side, s);
        return 1;
    }

    public int notice(int day) {
        if (!within(day, 1, DAYS)) {
            return BAD;
        }
        int before = law.notice;
        law.notice = day;
        return before;
    }

    public int judge(int twelfths, int wage) {
        if (!within(twelfths, 0, TWELVE) || !within(wage, 0, TOP_WAGE)) {
            return BAD;
        }
        law.twelfths = twelfths;
        law.wage = wage;
        return 1;
    }

    // ---- 2 ways

    public int way(int w, int kind) {
        if (!isWay(w) || !within(kind, 0, BACK)) {
            return BAD;
        }
        ways[w].make(kind);
        return 1;
    }

    public int set(int w, int sort, int day, int v) {
        if (!isWay(w) || !isPlace(sort, day)) {
            return BAD;
        }
        if (ways[w].isMissing()) {
            return findings.tell(NOTHING);
        }
        if (!ways[w].fits(v)) {
            return findings.tell(UNLIKE);
        }
        return ways[w].swap(sort, day, v);
    }

    public int setAll(int w, int sort, int r) {
        if (!isWay(w) || !within(sort, 0, SORTS - 1) || !isRow(r)) {
            return BAD;
        }
        if (ways[w].isMissing() || rows[r].isMissing()) {
            return findings.tell(NOTHING);
        }
        if (rows[r].size() != DAYS) {
            return findings.tell(SIZE);
        }
        for (int i = 0; i < DAYS; i++) {
            if (!ways[w].fits((byte) rows[r].cell(i))) {
                return findings.tell(UNLIKE);
            }
        }
        for (int i = 0; i < DAYS; i++) {
            ways[w].swap(sort, i + 1, (byte) rows[r].cell(i));
        }
        return 1;
    }

    public int at(int w, int sort, int day) {
        if (!isWay(w) || !isPlace(sort, day)) {
            return BAD;
        }
        if (ways[w].isMissing()) {
            return findings.tell(NOTHING);
        }
        return ways[w].number(sort, day);
    }

    public int kind(int w) {
        if (!isWay(w)) {
            return BAD;
        }
        if (ways[w].isMissing()) {
            return findings.tell(NOTHING);
        }
        return ways[w].ownKind();
    }

    public int mark(int w, int kind) {
        if (!isWay(w) || !within(kind, OFFER, BACK)) {
            return BAD;
        }
        if (ways[w].isMissing()) {
            return findings.tell(NOTHING);
        }
        if (!ways[w].is(kind)) {
            return findings.tell(UNLIKE);
        }
        if (kind == OFFER) {
            return ways[w].greatest();
        }
        if (kind == TAKE) {
            return ways[w].least();
        }
        return kind == VOTE ? quarrel.sortsToCarry() : ways[w].sum();
    }

    public int run(int offer, int take, int owners, int men) {
        if (!quarrel.hasSort(OWNERS, owners) || !quarrel.hasSort(MEN, men)) {
            return BAD;
        }
        int refusal = refusePair(offer, take, true);
        if (refusal != FINE) {
            return refusal;
        }
        int day = runs.settlingDay(ways[offer], ways[take], owners, men);
        asked = runs.wageOn(ways[offer], owners, day);
        return day;
    }

    public int worth(int offer, int take, int side, int s) {
        if (!quarrel.hasSort(side, s)) {
            return BAD;
        }
        int refusal = refusePair(offer, take, true);
        if (refusal != FINE) {
            return refusal;
        }
        fraction.tell(runs.worthSum(ways[offer], ways[take], side, s), runs.worthShares(side));
        return 1;
    }

    public int think(int offer, int take, int owners, int d, int side, int s) {
        if (!quarrel.hasSort(OWNERS, owners) || !within(d, 0, quarrel.last())
                || !within(side, MEN, OWNERS) || !quarrel.hasSort(otherSide(side), s)) {
            return BAD;
        }
        int refusal = refusePair(offer, take, true);
        if (refusal != FINE) {
            return refusal;
        }
        int out = runs.stillOut(ways[offer], ways[take], owners, d);
        if (out == 0) {
            return findings.tell(NOUGHT);
        }
        int set = side == MEN ? runs.offeringAlike(ways[offer], owners, d) : out;
        int share = contains(set, s) ? quarrel.chance(otherSide(side), s) : 0;
        fraction.tell(share, quarrel.weight(otherSide(side), set));
        return 1;
    }

    public int end(int offer, int take, int day) {
        if (!within(day, 1, quarrel.last() + 1)) {
            return BAD;
        }
        int refusal = refusePair(offer, take, true);
        if (refusal != FINE) {
            return refusal;
        }
        fraction.tell(runs.endingWeight(ways[offer], ways[take], day), quarrel.pairs());
        return 1;
    }

    public int best(int way, int side, int s) {
        if (!isWay(way) || !quarrel.hasSort(side, s)) {
            return BAD;
        }
        if (ways[way].isMissing()) {
            return findings.tell(NOTHING);
        }
        if (side == MEN ? !ways[way].is(OFFER) : !ways[way].isPlainTake()) {
            return findings.tell(UNLIKE);
        }
        fraction.tell(bests.bestSum(ways[way], side, s), runs.worthShares(side));
        return 1;
    }

    public int rest(int offer, int take) {
        int refusal = refusePair(offer, take, false);
        if (refusal != FINE) {
            return refusal;
        }
        for (int side = MEN; side <= OWNERS; side++) {
            Way against = side == MEN ? ways[offer] : ways[take];
            for (int s = 0; s < quarrel.sorts(side); s++) {
                if (bests.bestSum(against, side, s) > runs.worthSum(ways[offer], ways[take], side, s)) {
                    return 10 * side + s;
                }
            }
        }
        return NONE;
    }

    public int answer(int offer, int take) {
        int refusal = refusePair(offer, take, false);
        if (refusal != FINE) {
            return refusal;
        }
        int changed = 0;
        for (int s = 0; s < quarrel.sorts(OWNERS); s++) {
            changed += bests.layOffers(ways[offer], ways[take], s);
        }
        return changed;
    }

    public int reply(int take, int offer) {
        int refusal = refusePair(offer, take, false);
        if (refusal != FINE) {
            return refusal;
        }
        int changed = 0;
        for (int s = 0; s < quarrel.sorts(MEN); s++) {
            bests.weighTaking(ways[offer], s);
            for (int day = 1; day <= DAYS; day++) {
                int wage = leastTaken(ways[offer], s, day);
                changed += ways[take].swap(s, day, wage) == wage ? 0 : 1;
            }
        }
        return changed;
    }

    // ---- 3 losses, laws

    public int longer(int offer, int take) {
        int refusal = refusePair(offer, take, true);
        if (refusal != FINE) {
            return refusal;
        }
        fraction.tell(runs.lostDays(ways[offer], ways[take]), quarrel.pairs());
        return 1;
    }

    public int lost(int offer, int take) {
        int refusal = refusePair(offer, take, true);
        if (refusal != FINE) {
            return refusal;
        }
        fraction.tell(runs.lostGoods(ways[offer], ways[take]), quarrel.pairs());
        return 1;
    }

    public int morning(int offer, int take, int owners, int men) {
        if (!quarrel.hasSort(OWNERS, owners) || !quarrel.hasSort(MEN, men)) {
            return BAD;
        }
        int refusal = refusePair(offer, take, true);
        if (refusal != FINE) {
            return refusal;
        }
        int day = runs.settlingDay(ways[offer], ways[take], owners, men);
        int wage = runs.wageOn(ways[offer], owners, day);
        int better = 0;
        for (int x = 0; x <= TOP_WAGE; x++) {
            long menGain = quarrel.pay(MEN, men, 1, x) - quarrel.pay(MEN, men, day, wage);
            long ownersGain = quarrel.pay(OWNERS, owners, 1, x) - quarrel.pay(OWNERS, owners, day, wage);
            if (menGain >= 0 && ownersGain >= 0 && menGain + ownersGain > 0) {
                better |= 1 << x;
            }
        }
        return better;
    }

    public int law(int offer, int take) {
        int refusal = refusePair(offer, take, true);
        if (refusal != FINE) {
            return refusal;
        }
        int chosen = NONE;
        long fewest = 0;
        for (int notice = 1; notice <= LAW_NOTICES; notice++) {
            for (int twelfths = 0; twelfths <= LAW_TWELFTHS; twelfths += LAW_TWELFTHS) {
                trialLaw.notice = notice;
                trialLaw.twelfths = twelfths;
                long days = trialRuns.lostDaysJudged(ways[offer], ways[take]);
                if (chosen == NONE || days < fewest) {
                    chosen = 10 * notice + twelfths;
                    fewest = days;
                }
            }
        }
        fraction.tell(fewest, quarrel.pairs() * quarrel.judgings());
        return chosen;
    }

    // ---- 4 men of kinds, pits

    public int men(int kind, int many, int left, int t) {
        if (!isKindOfMen(kind) || !within(many, 0, LONGEST) || !within(left, 0, LONGEST) || !within(t, 0, 100)) {
            return BAD;
        }
        strikers.many[kind] = many;
        strikers.left[kind] = left;
        strikers.share[kind] = t;
        return 1;
    }

    public int leftBy(int kind, int w, int sort, int day) {
        if (!isKindOfMen(kind) || !isWay(w) || !isPlace(sort, day)) {
            return BAD;
        }
        if (ways[w].isMissing()) {
            return findings.tell(NOTHING);
        }
        if (!ways[w].is(BACK)) {
            return findings.tell(UNLIKE);
        }
        strikers.left[kind] = ways[w].number(sort, day);
        return strikers.left[kind];
    }

    public int gone(int day, int fund, int in) {
        if (!within(day, 1, LONGEST) || !isFund(fund, in)) {
            return BAD;
        }
        strikers.liveTill(day, fund, in);
        asked = strikers.kindsBack();
        return strikers.menBack();
    }

    public int all(int fund, int in) {
        if (!isFund(fund, in)) {
            return BAD;
        }
        return strikers.dayAllBack(LONGEST, fund, in, NONE);
    }

    public int turns(int day) {
        if (!within(day, 1, LONGEST)) {
            return BAD;
        }
        return strikers.turningKind(day);
    }

    public int fund(int fund, int in) {
        if (!isFund(fund, in)) {
            return BAD;
        }
        return strikers.daysPaid(fund, in);
    }

    public int pact(int k, int g, int l) {
        if (!within(k, 1, 9) || !within(g, 0, 99) || !within(l, 0, 99)) {
            return BAD;
        }
        for (int n = 1; n <= LONGEST; n++) {
            if (g * n >= l * (k - 1)) {
                return n;
            }
        }
        return NONE;
    }

    // ---- 5 what is told

    public int asked() {
        return asked;
    }

    public long upper() {
        return fraction.above;
    }

    public long lower() {
        return fraction.below;
    }

    public int count(int what) {
        if (!within(what, 0, 4)) {
            return BAD;
        }
        return counted(what);
    }

    public int finding() {
        return findings.latest();
    }

    public int findings(int f) {
        if (!within(f, NOTHING, SIZE)) {
            return BAD;
        }
        return findings.often(f);
    }

    public long digest() {
        long h = 17;
        for (int what = 0; what <= 4; what++) {
            h = 31 * h + counted(what);
        }
        for (int what = 0; what <= 8; what++) {
            h = 31 * h + ofQuarrel(what);
        }
        h = quarrel.mixInto(h);
        for (Way way : ways) {
            h = way.mixInto(h);
        }
        h = strikers.mixInto(h);
        for (Cells row : rows) {
            h = row.mixInto(h);
        }
        for (Cells text : texts) {
            h = text.mixInto(h);
        }
        return h;
    }

    // ---- what several calls ask

    private static boolean within(int v, int least, int greatest) {
        return v >= least && v <= greatest;
    }

    private static boolean isRow(int r) {
        return within(r, 0, ROWS - 1);
    }

    private static boolean isText(int t) {
        return within(t, 0, TEXTS - 1);
    }

    private static boolean isWay(int w) {
        return within(w, 0, WAYS - 1);
    }

    /** Without a call of its own, since it is asked at the bottom of the longest chains of calls. */
    private static boolean isPlace(int sort, int day) {
        return sort >= 0 && sort < SORTS && day >= 1 && day <= DAYS;
    }

    private static boolean isKindOfMen(int kind) {
        return within(kind, 0, KINDS - 1);
    }

    private static boolean isFund(int fund, int in) {
        return within(fund, 0, 9999) && within(in, 0, 999);
    }

    private static int otherSide(int side) {
        return side == MEN ? OWNERS : MEN;
    }

    private static boolean contains(int set, int s) {
        return (set >> s & 1) == 1;
    }

    /** FINE if an OFFER and a TAKE stand there, else what the call answers. */
    private int refusePair(int offer, int take, boolean voteToo) {
        if (!isWay(offer) || !isWay(take)) {
            return BAD;
        }
        if (ways[offer].isMissing() || ways[take].isMissing()) {
            return findings.tell(NOTHING);
        }
        boolean taken = voteToo ? ways[take].is(TAKE) : ways[take].isPlainTake();
        return ways[offer].is(OFFER) && taken ? FINE : findings.tell(UNLIKE);
    }

    /** Over the sets of SORTS of OWNERS that can't be told apart on that day; bests has weighed for s. */
    private int leastTaken(Way offer, int s, int day) {
        int least = NEVER_TAKEN;
        if (!within(day, law.notice, quarrel.last())) {
            return least;
        }
        for (int o = 0; o < quarrel.sorts(OWNERS); o++) {
            int wage = offer.number(o, day);
            if (wage < least && bests.isTaken(s, runs.offeringAlike(offer, o, day), day, wage)) {
                least = wage;
            }
        }
        return least;
    }

    private int ofQuarrel(int what) {
        switch (what) {
            case 0: return quarrel.sorts(MEN);
            case 1: return quarrel.sorts(OWNERS);
            case 2: return quarrel.value;
            case 3: return quarrel.horizon;
            case 4: return quarrel.last();
            case 5: return quarrel.wage;
            case 6: return law.notice;
            case 7: return law.twelfths;
            default: return law.wage;
        }
    }

    private int counted(int what) {
        switch (what) {
            case 0: return present(rows);
            case 1: return present(texts);
            case 2: return waysOf(0);
            case 3: return waysOf(TAKE);
            default: return strikers.menInAll();
        }
    }

    private static int present(Cells[] cells) {
        int there = 0;
        for (Cells one : cells) {
            there += one.isMissing() ? 0 : 1;
        }
        return there;
    }

    private int waysOf(int kind) {
        int there = 0;
        for (Way way : ways) {
            there += !way.isMissing() && way.is(kind) ? 1 : 0;
        }
        return there;
    }

    /** A ROW or a TEXT: its cells are made once and used again each time it is made anew. */
    private static final class Cells {
        private final int[] cells;
        private int size = MISSING;

        Cells(int limit) {
            cells = new int[Math.max(limit, 0)];
        }

        boolean isMissing() {
            return size == MISSING;
        }

        int size() {
            return size;
        }

        void make(int n, int filling) {
            size = Math.max(0, Math.min(n, cells.length));
            Arrays.fill(cells, filling);
        }

        void drop() {
            size = MISSING;
        }

        /** Asked by subtraction, since a place and a number together may be beyond an int. */
        boolean holds(int i, int n) {
            return n >= 0 && n <= size && i >= 0 && i <= size - n;
        }

        int cell(int i) {
            return i >= 0 && i < size ? cells[i] : 0;
        }

        int swap(int i, int v) {
            if (!holds(i, 1)) {
                return 0;
            }
            int before = cells[i];
            cells[i] = v;
            return before;
        }

        void take(int j, Cells from, int i, int n) {
            if (holds(j, n) && from.holds(i, n)) {
                System.arraycopy(from.cells, i, cells, j, n);
            }
        }

        int middle() {
            long sum = 0;
            for (int i = 0; i < size; i++) {
                sum += cells[i];
            }
            return size > 0 ? (int) (sum / size) : 0;
        }

        long mixInto(long h) {
            long mixed = 31 * h + size;
            for (int i = 0; i < size; i++) {
                mixed = 31 * mixed + cells[i];
            }
            return mixed;
        }
    }

    /** Who quarrels, and over what. */
    private static final class Quarrel {
        /** Twelve to the power of days: a JUDGE who may come that often shares everything so finely. */
        private static final long[] POWERS = {
            1L, 12L, 144L, 1728L, 20736L, 248832L, 2985984L, 35831808L, 429981696L, 5159780352L, 61917364224L
        };

        private final int[] sorts = new int[SIDES];
        /** What all CHANCES of a side are together. */
        private final int[] totals = new int[SIDES];
        private final int[][] chances = new int[SIDES][SORTS];
        private final int[][] costs = new int[SIDES][SORTS];
        private int value;
        private int horizon;
        private int last;
        private int wage;

        Quarrel() {
            clear();
            addSort(MEN, 1, 1);
            addSort(OWNERS, 1, 1);
        }

        void clear() {
            Arrays.fill(sorts, 0);
            Arrays.fill(totals, 0);
            value = 10;
            horizon = 20;
            last = 5;
            wage = 5;
        }

        void addSort(int side, int chance, int cost) {
            int s = sorts(side);
            if (within(side, MEN, OWNERS) && s < SORTS) {
                chances[side][s] = chance;
                costs[side][s] = cost;
                sorts[side] = s + 1;
                totals[side] += chance;
            }
        }

        void become(Quarrel other) {
            clear();
            for (int side = MEN; side <= OWNERS; side++) {
                for (int s = 0; s < other.sorts(side); s++) {
                    addSort(side, other.chance(side, s), other.cost(side, s));
                }
            }
            value = other.value;
            horizon = other.horizon;
            last = other.last;
            wage = other.wage;
        }

        int last() {
            return last;
        }

        int sorts(int side) {
            return side == MEN || side == OWNERS ? sorts[side] : 0;
        }

        boolean hasSort(int side, int s) {
            return (side == MEN || side == OWNERS) && s >= 0 && s < sorts[side];
        }

        int chance(int side, int s) {
            return hasSort(side, s) ? chances[side][s] : 0;
        }

        int cost(int side, int s) {
            return hasSort(side, s) ? costs[side][s] : 0;
        }

        int everySort(int side) {
            return (1 << sorts(side)) - 1;
        }

        int weight(int side, int set) {
            int sum = 0;
            for (int s = 0; s < sorts(side); s++) {
                sum += contains(set, s) ? chances[side][s] : 0;
            }
            return sum;
        }

        int total(int side) {
            return side == MEN || side == OWNERS ? totals[side] : 0;
        }

        long pairs() {
            return (long) total(MEN) * total(OWNERS);
        }

        /** Into how many equal parts the JUDGE's days share all chances. */
        long judgings() {
            return power(last);
        }

        static long power(int days) {
            return within(days, 0, DAYS) ? POWERS[days] : 1;
        }

        long pay(int side, int s, int day, int settledWage) {
            long daily = side == MEN ? settledWage : value - settledWage;
            long cost = hasSort(side, s) ? costs[side][s] : 0;
            return daily * (horizon - day + 1) - cost * (day - 1);
        }

        boolean carries(int weightOfMen) {
            return 2 * weightOfMen > total(MEN);
        }

        int sortsToCarry() {
            int needed = sorts(MEN);
            for (int set = 1; set <= everySort(MEN); set++) {
                if (carries(weight(MEN, set))) {
                    needed = Math.min(needed, Integer.bitCount(set));
                }
            }
            return needed;
        }

        long mixInto(long h) {
            long mixed = h;
            for (int side = MEN; side <= OWNERS; side++) {
                for (int s = 0; s < sorts(side); s++) {
                    mixed = 31 * mixed + chance(side, s);
                    mixed = 31 * mixed + cost(side, s);
                }
            }
            return mixed;
        }
    }

    /** From which day on offers count, and a judge who may come. */
    private static final class Law {
        private int notice = 1;
        private int twelfths = 0;
        private int wage = 6;
    }

    /** Reads a TEXT into a draft, so that a FAULT leaves the QUARREL as it is. */
    private static final class Reader {
        private final Quarrel draft = new Quarrel();
        private int place = 0;

        Quarrel draft() {
            return draft;
        }

        /** The FAULT, or NONE: each reading below stops with place where it can't go on. */
        int read(Cells text) {
            draft.clear();
            place = 0;
            for (int item = 0; item <= TEXT_LIMIT; item++) {
                skipBlanks(text);
                if (place >= text.size()) {
                    return isWhole() ? NONE : text.size();
                }
                if (!readItem(text)) {
                    return place;
                }
            }
            return place;
        }

        private boolean isWhole() {
            return draft.sorts(MEN) > 0 && draft.sorts(OWNERS) > 0 && draft.last <= draft.horizon;
        }

        private void skipBlanks(Cells text) {
            while (place < text.size() && text.cell(place) == BLANK) {
                place++;
            }
        }

        private boolean readItem(Cells text) {
            switch (text.cell(place)) {
                case 'm': return readSort(text, MEN);
                case 'o': return readSort(text, OWNERS);
                case 'v':
                    draft.value = readValue(text);
                    return within(draft.value, 0, 99);
                case 'h':
                    draft.horizon = readValue(text);
                    return within(draft.horizon, 1, 40);
                case 'l':
                    draft.last = readValue(text);
                    return within(draft.last, 1, DAYS);
                case 'w':
                    draft.wage = readValue(text);
                    return within(draft.wage, 0, TOP_WAGE);
                default: return false;
            }
        }

        private boolean readSort(Cells text, int side) {
            if (draft.sorts(side) >= SORTS) {
                return false;
            }
            int chance = readValue(text);
            if (!within(chance, 1, 9) || text.cell(place) != ',') {
                return false;
            }
            int cost = readValue(text);
            draft.addSort(side, chance, cost);
            return cost != MISSING;
        }

        /** The number behind a sign; MISSING if there is none. */
        private int readValue(Cells text) {
            place++;
            if (!isFigure(text)) {
                return MISSING;
            }
            int number = 0;
            for (int figures = 0; figures < 2 && isFigure(text); figures++) {
                number = 10 * number + text.cell(place) - '0';
                place++;
            }
            return number;
        }

        private boolean isFigure(Cells text) {
            return within(text.cell(place), '0', '9');
        }
    }

    /** A number for each of three SORTS on each of ten days. */
    private static final class Way {
        private final int[] numbers = new int[SORTS * DAYS];
        private int kind = MISSING;

        void make(int newKind) {
            kind = newKind;
            Arrays.fill(numbers, 0);
        }

        boolean isMissing() {
            return kind == MISSING;
        }

        int ownKind() {
            return kind;
        }

        /** Each KIND is a WAY, and a VOTE is a TAKE, too. */
        boolean is(int asked) {
            return asked == 0 || kind == asked || (asked == TAKE && kind == VOTE);
        }

        boolean isPlainTake() {
            return kind == TAKE;
        }

        boolean fits(int v) {
            if (kind == OFFER) {
                return within(v, 0, TOP_WAGE);
            }
            return within(v, 0, is(TAKE) ? NEVER_TAKEN : 99);
        }

        int number(int sort, int day) {
            return isPlace(sort, day) ? numbers[DAYS * sort + day - 1] : 0;
        }

        int swap(int sort, int day, int v) {
            int before = number(sort, day);
            if (isPlace(sort, day)) {
                numbers[DAYS * sort + day - 1] = v;
            }
            return before;
        }

        int greatest() {
            int most = 0;
            for (int v : numbers) {
                most = Math.max(most, v);
            }
            return most;
        }

        int least() {
            int few = NEVER_TAKEN;
            for (int v : numbers) {
                few = Math.min(few, v);
            }
            return few;
        }

        int sum() {
            int sum = 0;
            for (int v : numbers) {
                sum += v;
            }
            return sum;
        }

        long mixInto(long h) {
            long mixed = 31 * h + kind;
            if (isMissing()) {
                return mixed;
            }
            for (int v : numbers) {
                mixed = 31 * mixed + v;
            }
            return mixed;
        }
    }

    /** What becomes of an OFFER and a TAKE under a law. */
    private static final class Runs {
        private final Quarrel quarrel;
        private final Law law;

        Runs(Quarrel quarrel, Law law) {
            this.quarrel = quarrel;
            this.law = law;
        }

        int settlingDay(Way offer, Way take, int o, int m) {
            for (int day = law.notice; day <= quarrel.last; day++) {
                if (isTaken(take, m, day, offer.number(o, day))) {
                    return day;
                }
            }
            return quarrel.last + 1;
        }

        private boolean isTaken(Way take, int m, int day, int wage) {
            if (take.isPlainTake()) {
                return wage >= take.number(m, day);
            }
            int weight = 0;
            for (int s = 0; s < quarrel.sorts(MEN); s++) {
                weight += wage >= take.number(s, day) ? quarrel.chance(MEN, s) : 0;
            }
            return quarrel.carries(weight);
        }

        int wageOn(Way offer, int o, int day) {
            return day > quarrel.last ? quarrel.wage : offer.number(o, day);
        }

        /** SORTS of MEN that have not taken on days up to d what SORT o offers. */
        int stillOut(Way offer, Way take, int o, int d) {
            int set = 0;
            for (int m = 0; m < quarrel.sorts(MEN); m++) {
                set |= settlingDay(offer, take, o, m) > d ? 1 << m : 0;
            }
            return set;
        }

        /** SORTS of OWNERS whose offers from NOTICE to d are those of SORT o. */
        int offeringAlike(Way offer, int o, int d) {
            int set = 0;
            for (int p = 0; p < quarrel.sorts(OWNERS); p++) {
                boolean alike = true;
                for (int day = law.notice; day <= d; day++) {
                    alike &= offer.number(p, day) == offer.number(o, day);
                }
                set |= alike ? 1 << p : 0;
            }
            return set;
        }

        /** What the WORTH of a SORT of a side is shared by; worthSum is the upper number to it. */
        long worthShares(int side) {
            return quarrel.total(otherSide(side)) * quarrel.judgings();
        }

        long worthSum(Way offer, Way take, int side, int s) {
            int other = otherSide(side);
            long sum = 0;
            for (int t = 0; t < quarrel.sorts(other); t++) {
                int o = side == MEN ? t : s;
                int m = side == MEN ? s : t;
                int day = settlingDay(offer, take, o, m);
                sum += quarrel.chance(other, t) * payJudged(side, s, day, wageOn(offer, o, day));
            }
            return sum;
        }

        /** From the day of SETTLING back to the first: the JUDGE may have come ahead of each offer. */
        private long payJudged(int side, int s, int day, int wage) {
            int judged = Math.min(day, quarrel.last);
            long sum = quarrel.pay(side, s, day, wage);
            for (int d = judged; d >= 1; d--) {
                long ifJudge = quarrel.pay(side, s, d, law.wage) * Quarrel.power(judged - d);
                sum = law.twelfths * ifJudge + (TWELVE - law.twelfths) * sum;
            }
            return sum * Quarrel.power(quarrel.last - judged);
        }

        private long daysJudged(int day) {
            int judged = Math.min(day, quarrel.last);
            long sum = day - 1;
            for (int d = judged; d >= 1; d--) {
                long ifJudge = (d - 1) * Quarrel.power(judged - d);
                sum = law.twelfths * ifJudge + (TWELVE - law.twelfths) * sum;
            }
            return sum * Quarrel.power(quarrel.last - judged);
        }

        private long pairWeight(int o, int m) {
            return (long) quarrel.chance(OWNERS, o) * quarrel.chance(MEN, m);
        }

        long endingWeight(Way offer, Way take, int day) {
            long sum = 0;
            for (int o = 0; o < quarrel.sorts(OWNERS); o++) {
                for (int m = 0; m < quarrel.sorts(MEN); m++) {
                    sum += settlingDay(offer, take, o, m) == day ? pairWeight(o, m) : 0;
                }
            }
            return sum;
        }

        long lostDays(Way offer, Way take) {
            long sum = 0;
            for (int day = 1; day <= quarrel.last + 1; day++) {
                sum += (day - 1) * endingWeight(offer, take, day);
            }
            return sum;
        }

        long lostDaysJudged(Way offer, Way take) {
            long sum = 0;
            for (int day = 1; day <= quarrel.last + 1; day++) {
                sum += daysJudged(day) * endingWeight(offer, take, day);
            }
            return sum;
        }

        long lostGoods(Way offer, Way take) {
            long sum = 0;
            for (int o = 0; o < quarrel.sorts(OWNERS); o++) {
                for (int m = 0; m < quarrel.sorts(MEN); m++) {
                    long daily = quarrel.value + quarrel.cost(OWNERS, o) + quarrel.cost(MEN, m);
                    sum += pairWeight(o, m) * daily * (settlingDay(offer, take, o, m) - 1);
                }
            }
            return sum;
        }
    }

    /** The best that a SORT can do from each day on, for each set of SORTS that the other side may still be. */
    private static final class Bests {
        private final Quarrel quarrel;
        private final Law law;
        /** By day and set: its WORTH ahead of that day's JUDGE, times the set's CHANCES and 12 for each day left. */
        private final long[][] sums = new long[DAYS + 2][SETS];
        private final int[][] offers = new int[DAYS + 2][SETS];

        Bests(Quarrel quarrel, Law law) {
            this.quarrel = quarrel;
            this.law = law;
        }

        long bestSum(Way against, int side, int s) {
            if (side == MEN) {
                weighTaking(against, s);
            } else {
                weighOffering(against, s);
            }
            return sum(1, quarrel.everySort(otherSide(side)));
        }

        private static boolean isHeld(int day, int set) {
            return within(day, 1, DAYS + 1) && within(set, 0, SETS - 1);
        }

        private long sum(int day, int set) {
            return isHeld(day, set) ? sums[day][set] : 0;
        }

        private void keep(int day, int set, long sum) {
            if (isHeld(day, set)) {
                sums[day][set] = sum;
            }
        }

        void weighTaking(Way offer, int s) {
            endUnsettled(MEN, s);
            for (int day = quarrel.last; day >= 1; day--) {
                for (int set = 0; set <= quarrel.everySort(OWNERS); set++) {
                    long unjudged = day < law.notice ? sum(day + 1, set) : bestByTaking(offer, s, day, set);
                    keep(day, set, judged(MEN, s, day, set, unjudged));
                }
            }
        }

        private void weighOffering(Way take, int s) {
            endUnsettled(OWNERS, s);
            for (int day = quarrel.last; day >= 1; day--) {
                for (int set = 0; set <= quarrel.everySort(MEN); set++) {
                    long unjudged = day < law.notice ? sum(day + 1, set) : bestByOffering(take, s, day, set);
                    keep(day, set, judged(OWNERS, s, day, set, unjudged));
                }
            }
        }

        private void endUnsettled(int side, int s) {
            for (int set = 0; set < SETS; set++) {
                long pay = quarrel.pay(side, s, quarrel.last + 1, quarrel.wage);
                keep(quarrel.last + 1, set, pay * quarrel.weight(otherSide(side), set));
            }
        }

        private long settled(int side, int s, int day, int set, int wage) {
            long pay = quarrel.pay(side, s, day, wage) * quarrel.weight(otherSide(side), set);
            return pay * Quarrel.power(quarrel.last - day);
        }

        private long judged(int side, int s, int day, int set, long unjudged) {
            return law.twelfths * settled(side, s, day, set, law.wage) + (TWELVE - law.twelfths) * unjudged;
        }

        /** The set parts by what its SORTS offer on that day: MEN see it ahead of taking. */
        private long bestByTaking(Way offer, int s, int day, int set) {
            long sum = 0;
            for (int wage = 0; wage <= TOP_WAGE; wage++) {
                int part = 0;
                for (int o = 0; o < quarrel.sorts(OWNERS); o++) {
                    part |= contains(set, o) && offer.number(o, day) == wage ? 1 << o : 0;
                }
                sum += Math.max(settled(MEN, s, day, part, wage), sum(day + 1, part));
            }
            return sum;
        }

        boolean isTaken(int s, int set, int day, int wage) {
            return settled(MEN, s, day, set, wage) >= sum(day + 1, set);
        }

        private long bestByOffering(Way take, int s, int day, int set) {
            long most = 0;
            int chosen = 0;
            for (int wage = 0; wage <= TOP_WAGE; wage++) {
                int out = refusing(take, day, set, wage);
                long sum = settled(OWNERS, s, day, set & ~out, wage) + sum(day + 1, out);
                if (wage == 0 || sum > most) {
                    most = sum;
                    chosen = wage;
                }
            }
            if (isHeld(day, set)) {
                offers[day][set] = chosen;
            }
            return most;
        }

        private int refusing(Way take, int day, int set, int wage) {
            int out = 0;
            for (int m = 0; m < quarrel.sorts(MEN); m++) {
                out |= contains(set, m) && wage < take.number(m, day) ? 1 << m : 0;
            }
            return out;
        }

        /** How many numbers of SORT s of the OFFER changed. */
        int layOffers(Way offer, Way take, int s) {
            weighOffering(take, s);
            int changed = 0;
            int out = quarrel.everySort(MEN);
            for (int day = 1; day <= DAYS; day++) {
                int wage = 0;
                if (within(day, law.notice, quarrel.last) && out != 0 && isHeld(day, out)) {
                    wage = offers[day][out];
                    out = refusing(take, day, out, wage);
                }
                changed += offer.swap(s, day, wage) == wage ? 0 : 1;
            }
            return changed;
        }
    }

    /** KINDS of MEN: what they are at first, and how they stand in the days that are being lived. */
    private static final class Strikers {
        private final int[] many = new int[KINDS];
        private final int[] left = new int[KINDS];
        private final int[] share = new int[KINDS];
        private final int[] leftNow = new int[KINDS];
        private final boolean[] back = new boolean[KINDS];
        private int inFund = 0;

        private void begin(int fund, int turned) {
            for (int k = 0; k < KINDS; k++) {
                leftNow[k] = k == turned ? 0 : left[k];
                back[k] = false;
            }
            inFund = fund;
        }

        private void goBack() {
            for (int k = 0; k < KINDS; k++) {
                back[k] |= leftNow[k] == 0;
            }
            // A round that sends none back is the last, so there are no more rounds than kinds.
            int before = -1;
            for (int round = 0; round <= KINDS && menBack() != before; round++) {
                before = menBack();
                followThose(before, menInAll());
            }
        }

        private void followThose(int gone, int everyone) {
            for (int k = 0; k < KINDS; k++) {
                back[k] |= 100 * gone >= share[k] * everyone;
            }
        }

        /** Whether the FUND pays that day. */
        private boolean payOut(int in) {
            inFund += in;
            int out = menInAll() - menBack();
            if (inFund >= out) {
                inFund -= out;
                return true;
            }
            for (int k = 0; k < KINDS; k++) {
                leftNow[k] -= back[k] ? 0 : 1;
            }
            return false;
        }

        void liveTill(int day, int fund, int in) {
            begin(fund, NONE);
            for (int d = 1; d <= day; d++) {
                goBack();
                payOut(in);
            }
        }

        int dayAllBack(int until, int fund, int in, int turned) {
            begin(fund, turned);
            for (int d = 1; d <= until; d++) {
                goBack();
                if (menBack() == menInAll()) {
                    return d;
                }
                payOut(in);
            }
            return NONE;
        }

        int turningKind(int day) {
            if (dayAllBack(day, 0, 0, NONE) != NONE) {
                return NONE;
            }
            int turning = NONE;
            int fewest = LONGEST + 1;
            for (int k = 0; k < KINDS; k++) {
                if (many[k] > 0 && many[k] < fewest && dayAllBack(day, 0, 0, k) != NONE) {
                    turning = k;
                    fewest = many[k];
                }
            }
            return turning;
        }

        int daysPaid(int fund, int in) {
            begin(fund, NONE);
            for (int d = 1; d <= LONGEST; d++) {
                goBack();
                if (!payOut(in)) {
                    return d - 1;
                }
            }
            return LONGEST;
        }

        int menInAll() {
            int sum = 0;
            for (int men : many) {
                sum += men;
            }
            return sum;
        }

        int menBack() {
            int sum = 0;
            for (int k = 0; k < KINDS; k++) {
                sum += back[k] ? many[k] : 0;
            }
            return sum;
        }

        int kindsBack() {
            int set = 0;
            for (int k = 0; k < KINDS; k++) {
                set |= back[k] && many[k] > 0 ? 1 << k : 0;
            }
            return set;
        }

        long mixInto(long h) {
            long mixed = h;
            for (int k = 0; k < KINDS; k++) {
                mixed = 31 * mixed + many[k];
                mixed = 31 * mixed + left[k];
                mixed = 31 * mixed + share[k];
            }
            return mixed;
        }
    }

    /** The fraction that was told last. */
    private static final class Fraction {
        private long above = 0;
        private long below = 1;

        void tell(long up, long down) {
            long divisor = commonDivisor(Math.abs(up), Math.abs(down));
            if (divisor != 0) {
                above = up / divisor;
                below = down / divisor;
            }
        }

        private static long commonDivisor(long first, long second) {
            long a = first;
            long b = second;
            // Euclid's rests halve at least every second step, so a long has far fewer steps than this.
            for (int step = 0; step < 200 && b != 0; step++) {
                long rest = a % b;
                a = b;
                b = rest;
            }
            return a;
        }
    }

    /** Which FINDING was the latest, and how often each was answered. */
    private static final class Findings {
        private final int[] times = new int[SIZE + 1];
        private int newest = 0;

        int tell(int f) {
            if (within(f, NOTHING, SIZE)) {
                newest = f;
                times[f]++;
            }
            return FINDING;
        }

        int latest() {
            return newest;
        }

        int often(int f) {
            return within(f, NOTHING, SIZE) ? times[f] : 0;
        }
    }
}
