import java.util.Arrays;

/** Corners of a town, who comes there, and what is sold of the papers that stand there. */
public final class UnsoldAtEleven {
    public static final int UNKNOWN = -1, OUTSIDE = -2, STATE = -3, FULL = -4, NONE = -9;

    private static final int CORNERS = 3;
    private static final int KINDS = 3;
    private static final int HALF_HOURS = 6;
    private static final int MOST_PAPERS = 60;
    private static final int SLOTS = 2;
    private static final int MOST_DAYS = 30;
    private static final int MOST_BITS = (1 << HALF_HOURS) - 1;
    private static final int MOST_SECOND_COST = 20;
    private static final int MOST_PAY = 20;
    private static final int MOST_WAGE = 999;
    private static final int EARNED_ADDED = 1000000;
    private static final int MORNING_ADDED = 100000;

    private final Text text = new Text();
    private final Reader reader = new Reader();
    private final Apart apart = new Apart();
    private final Sightings sightings = new Sightings();
    private final VanPlan plan = new VanPlan();
    private final Morning told = new Morning();
    private final Run run = new Run();
    private final Morning[] kept = new Morning[SLOTS];
    private final boolean[] isKept = new boolean[SLOTS];
    private Town town = new Town();
    private Town draft = new Town();

    public UnsoldAtEleven() {
        for (int slot = 0; slot < SLOTS; slot++) {
            kept[slot] = new Morning();
        }
        apart.reckon(town);
    }

    // ---- the town

    public int write(int n, long v) {
        if (n < 1 || n > 8) {
            return OUTSIDE;
        }
        if (!text.hasRoom(n)) {
            return FULL;
        }
        text.put(n, v);
        return text.size();
    }

    public int wipe() {
        return text.empty();
    }

    public int fault() {
        return reader.read(text, draft);
    }

    public int town() {
        if (reader.read(text, draft) != NONE) {
            return STATE;
        }
        Town before = town;
        town = draft;
        draft = before;
        apart.reckon(town);
        sightings.empty();
        told.reset();
        for (int slot = 0; slot < SLOTS; slot++) {
            isKept[slot] = false;
        }
        return reader.partsRead();
    }

    public int wants(int corner, int kind, int what) {
        if (!town.hasCorner(corner) || !isKind(kind)) {
            return UNKNOWN;
        }
        if (what < 0 || what > 1) {
            return OUTSIDE;
        }
        return what == 0 ? town.comesTo(corner, kind) : town.tenthsAt(corner, kind);
    }

    public int about(int what) {
        if (what < 0 || what > 9) {
            return OUTSIDE;
        }
        if (what == 0) {
            return town.corners;
        }
        if (what <= 3) {
            return town.shareOf(what - 1);
        }
        if (what <= 6) {
            return what == 4 ? town.cost : what == 5 ? town.brings : town.leftBrings;
        }
        return town.hasCorner(what - 7) ? town.nextFrom(what - 7) : UNKNOWN;
    }

    // ---- corners apart

    public long sold(int corner, int g, boolean upper) {
        int refusal = refusalOfPapers(corner, g);
        return refusal != 0 ? refusal : fraction(apart.soldOf(corner, g), apart.whole(), upper);
    }

    public long out(int corner, int g, boolean upper) {
        int refusal = refusalOfPapers(corner, g);
        return refusal != 0 ? refusal : fraction(apart.outOf(corner, g), apart.whole(), upper);
    }

    public int given(int p, int corner) {
        int refusal = refusalOfPapers(corner, p);
        return refusal != 0 ? refusal : apart.givenTo(town, p, corner);
    }

    public long earned(int p, boolean upper) {
        if (!isPapers(p)) {
            return OUTSIDE;
        }
        long term = fraction(apart.earnedBy(town, p), apart.whole(), upper);
        return upper ? term + EARNED_ADDED : term;
    }

    public int print() {
        return apart.bestPrint(town);
    }

    public long loss(int p, int corner, int n, boolean upper) {
        int refusal = refusalOfPapers(corner, p);
        if (refusal != 0) {
            return refusal;
        }
        if (n < 0 || n > p) {
            return OUTSIDE;
        }
        long less = apart.earnedBy(town, p) - apart.earnedWithNephew(town, p, corner, n);
        return fraction(less, apart.whole(), upper);
    }

    // ---- days

    public int see(int corner, int v) {
        if (!town.hasCorner(corner)) {
            return UNKNOWN;
        }
        if (v < 0 || v > 9) {
            return OUTSIDE;
        }
        return sightings.add(corner, v) ? sightings.size() : FULL;
    }

    public int unsee() {
        return sightings.empty();
    }

    public long likely(int kind, boolean upper) {
        if (!isKind(kind)) {
            return UNKNOWN;
        }
        long all = sightings.weightOfAll(town);
        return all == 0 ? STATE : fraction(sightings.weight(town, kind), all, upper);
    }

    public int likeliest() {
        return sightings.weightOfAll(town) == 0 ? STATE : sightings.heaviest(town);
    }

    public int ask() {
        return sightings.weightOfAll(town) == 0 ? STATE : sightings.mostUnlike(town);
    }

    // ---- the van

    public long best(int corners, int kind, int papers, int van, int t, boolean upper) {
        int refusal = refusalOfPlan(corners, kind, papers, van, t, 0);
        if (refusal != 0) {
            return refusal;
        }
        plan.choose(town, corners / 10, corners % 10, kind);
        plan.reckon(papers / 100 + papers % 100, van, t);
        return fraction(plan.bestOf(papers / 100, papers % 100, van), plan.whole(), upper);
    }

    public int now(int corners, int kind, int papers, int van, int t) {
        int refusal = refusalOfPlan(corners, kind, papers, van, t, 1);
        if (refusal != 0) {
            return refusal;
        }
        plan.choose(town, corners / 10, corners % 10, kind);
        plan.reckon(papers / 100 + papers % 100, van, t);
        return plan.firstMove(papers / 100, papers % 100, van);
    }

    // ---- a morning

    public int day(int kind) {
        if (!isKind(kind)) {
            return UNKNOWN;
        }
        int before = told.kind;
        told.kind = kind;
        return before;
    }

    public int gives(int corner, int g) {
        int refusal = refusalOfPapers(corner, g);
        return refusal != 0 ? refusal : told.setGives(corner, g);
    }

    public int more(int corner, int bits) {
        if (!town.hasCorner(corner)) {
            return UNKNOWN;
        }
        return bits < 0 || bits > MOST_BITS ? OUTSIDE : told.setMore(corner, bits);
    }

    public int van(int v, int rule, int r) {
        if (!isPapers(v) || !Morning.isRule(rule, r)) {
            return OUTSIDE;
        }
        int before = told.van;
        told.van = v;
        told.rule = rule;
        told.ruleNumber = r;
        return before;
    }

    public int order(int halfHour, int corner, int m) {
        if (!isHalfHour(halfHour) || !town.hasCorner(corner)) {
            return UNKNOWN;
        }
        if (m < 1 || m > Morning.MOST_ORDERED) {
            return OUTSIDE;
        }
        return told.addOrder(halfHour, corner, m) ? told.orders - 1 : FULL;
    }

    public int unorder() {
        int before = told.orders;
        told.orders = 0;
        return before;
    }

    public int morning(int corner, int halfHour, int what) {
        if (!town.hasCorner(corner) || !isHalfHour(halfHour)) {
            return UNKNOWN;
        }
        if (what < 0 || what > 3) {
            return OUTSIDE;
        }
        run.plain(town, told);
        return run.tellBehind(corner, halfHour, what);
    }

    public int ended(int what) {
        if (what < 0 || what > 4) {
            return OUTSIDE;
        }
        run.plain(town, told);
        switch (what) {
            case 0: return run.soldInAll();
            case 1: return run.leftAtCorners();
            case 2: return run.leftInVan();
            case 3: return run.wentHome();
            default: return run.earnedAtEnd(town, told) + MORNING_ADDED;
        }
    }

    public int ranOut(int corner) {
        if (!town.hasCorner(corner)) {
            return UNKNOWN;
        }
        run.plain(town, told);
        return run.firstWithout(corner);
    }

    public int habit(int corner) {
        return town.hasCorner(corner) ? told.habitAt(corner) : UNKNOWN;
    }

    public int days(int n) {
        if (n < 1 || n > MOST_DAYS) {
            return OUTSIDE;
        }
        int less = 0;
        for (int i = 0; i < n; i++) {
            less = letDayGoBy();
        }
        return less;
    }

    public int second(int corner, int halfHour, int m, int c) {
        if (!town.hasCorner(corner) || !isHalfHour(halfHour)) {
            return UNKNOWN;
        }
        if (m < 1 || m > MOST_PAPERS || c < 0 || c > MOST_SECOND_COST) {
            return OUTSIDE;
        }
        run.plain(town, told);
        int soldBefore = run.soldInAll();
        int leftBefore = run.leftAtCorners() + run.leftInVan();
        run.withSecond(town, told, corner, halfHour, m);
        int moreSold = run.soldInAll() - soldBefore;
        int moreLeft = run.leftAtCorners() + run.leftInVan() - leftBefore;
        int gain = moreSold * town.brings + moreLeft * town.leftBrings - m * (town.cost + c);
        return gain + MORNING_ADDED;
    }

    public int paid(int corner, int x, int y) {
        if (!town.hasCorner(corner)) {
            return UNKNOWN;
        }
        if (x < 0 || x > MOST_PAY || !isCryingPay(y)) {
            return OUTSIDE;
        }
        return x * soldAt(corner, x >= y);
    }

    public int leastPay(int corner, int y, int w) {
        if (!town.hasCorner(corner)) {
            return UNKNOWN;
        }
        if (!isCryingPay(y) || w < 0 || w > MOST_WAGE) {
            return OUTSIDE;
        }
        int silently = soldAt(corner, false);
        int crying = soldAt(corner, true);
        for (int x = 0; x <= MOST_PAY; x++) {
            if (x * (x >= y ? crying : silently) >= w) {
                return x;
            }
        }
        return NONE;
    }

    // ---- slots

    public int keep(int slot) {
        if (!isSlot(slot)) {
            return UNKNOWN;
        }
        kept[slot].copyFrom(told);
        isKept[slot] = true;
        return told.givenOut();
    }

    public int again(int slot) {
        if (!isSlot(slot)) {
            return UNKNOWN;
        }
        if (!isKept[slot]) {
            return STATE;
        }
        told.copyFrom(kept[slot]);
        return told.givenOut();
    }

    public int count(int what) {
        switch (what) {
            case 0: return text.size();
            case 1: return sightings.size();
            case 2: return told.orders;
            case 3: return told.givenOut();
            default: return OUTSIDE;
        }
    }

    // ---- what several calls share

    /** Rows are made for the most corners, however many the town has. */
    private static boolean isRow(int corner) {
        return corner >= 0 && corner < CORNERS;
    }

    private static boolean isKind(int kind) {
        return kind >= 0 && kind < KINDS;
    }

    private static boolean isHalfHour(int halfHour) {
        return halfHour >= 0 && halfHour < HALF_HOURS;
    }

    private static boolean isSlot(int slot) {
        return slot >= 0 && slot < SLOTS;
    }

    private static boolean isPapers(int papers) {
        return papers >= 0 && papers <= MOST_PAPERS;
    }

    /** One above the most that is paid: then the boy never cries. */
    private static boolean isCryingPay(int y) {
        return y >= 0 && y <= MOST_PAY + 1;
    }

    private int refusalOfPapers(int corner, int papers) {
        if (!town.hasCorner(corner)) {
            return UNKNOWN;
        }
        return isPapers(papers) ? 0 : OUTSIDE;
    }

    private int refusalOfPlan(int corners, int kind, int papers, int van, int t, int leastT) {
        if (corners < 0 || !town.hasCorner(corners / 10) || !town.hasCorner(corners % 10) || !isKind(kind)) {
            return UNKNOWN;
        }
        if (papers < 0 || !VanPlan.holds(papers / 100, papers % 100, van) || t < leastT || t > HALF_HOURS) {
            return OUTSIDE;
        }
        return corners / 10 == corners % 10 ? STATE : 0;
    }

    /** How many corners have less habit by this one day. */
    private int letDayGoBy() {
        run.plain(town, told);
        int less = 0;
        for (int corner = 0; corner < town.corners; corner++) {
            if (told.changeHabit(corner, run.firstWithout(corner) == NONE)) {
                less++;
            }
        }
        return less;
    }

    private int soldAt(int corner, boolean crying) {
        if (crying) {
            run.withCrier(town, told, corner);
        } else {
            run.plain(town, told);
        }
        return run.soldBy(corner, HALF_HOURS - 1);
    }

    private static long fraction(long above, long below, boolean upper) {
        long divisor = commonDivisor(above, below);
        if (divisor == 0) {
            return 0;
        }
        return (upper ? above : below) / divisor;
    }

    private static long commonDivisor(long above, long below) {
        long one = Math.abs(above);
        long other = Math.abs(below);
        for (int i = 0; i < 100 && other != 0; i++) {
            long rest = one % other;
            one = other;
            other = rest;
        }
        return one;
    }

    // ---- the text, and the town that it tells

    private static final class Text {
        private static final int MOST = 64;
        private static final int NO_BYTE = -1;

        private final int[] bytes = new int[MOST];
        private int size = 0;

        int size() {
            return size;
        }

        boolean hasRoom(int n) {
            return size + n <= MOST;
        }

        void put(int n, long v) {
            for (int i = n - 1; i >= 0 && size < MOST; i--) {
                bytes[size] = (int) (v >>> (8 * i)) & 255;
                size++;
            }
        }

        int empty() {
            int before = size;
            size = 0;
            return before;
        }

        int byteAt(int place) {
            return place >= 0 && place < size ? bytes[place] : NO_BYTE;
        }
    }

    private static final class Town {
        private final int[] shares = new int[KINDS];
        private final int[] comes = new int[CORNERS * KINDS];
        private final int[] tenths = new int[CORNERS * KINDS];
        private final int[] next = new int[CORNERS];
        private int corners;
        private int cost;
        private int brings;
        private int leftBrings;

        Town() {
            reset();
        }

        void reset() {
            corners = 1;
            cost = 10;
            brings = 20;
            leftBrings = 5;
            Arrays.fill(shares, 1);
            Arrays.fill(comes, 1);
            Arrays.fill(tenths, 5);
            Arrays.fill(next, NONE);
        }

        boolean hasCorner(int corner) {
            return corner >= 0 && corner < corners && corner < CORNERS;
        }

        int shareOf(int kind) {
            return isKind(kind) ? shares[kind] : 0;
        }

        int comesTo(int corner, int kind) {
            int cell = corner * KINDS + kind;
            return cell >= 0 && cell < comes.length ? comes[cell] : 0;
        }

        int tenthsAt(int corner, int kind) {
            int cell = corner * KINDS + kind;
            return cell >= 0 && cell < tenths.length ? tenths[cell] : 0;
        }

        int nextFrom(int corner) {
            return hasCorner(corner) ? next[corner] : NONE;
        }

        void setShare(int kind, int share) {
            if (isKind(kind)) {
                shares[kind] = share;
            }
        }

        void setWants(int corner, int kind, int b, int x) {
            int cell = corner * KINDS + kind;
            if (cell >= 0 && cell < comes.length && cell < tenths.length) {
                comes[cell] = b;
                tenths[cell] = x;
            }
        }

        void setNext(int corner, int to) {
            if (hasCorner(corner)) {
                next[corner] = to;
            }
        }
    }

    /** Reads a text; wherever it stops, its place is the fault. */
    private static final class Reader {
        private static final int SHARES = 0;
        private static final int WANTS = SHARES + KINDS;
        private static final int NEXTS = WANTS + CORNERS * KINDS;
        private static final int COST = NEXTS + CORNERS;
        private static final int BRINGS = COST + 1;
        private static final int LEFT = BRINGS + 1;
        private static final int ALL = LEFT + 1;

        private final boolean[] isTold = new boolean[ALL];
        private int place = 0;
        private int parts = 0;

        int partsRead() {
            return parts;
        }

        int read(Text text, Town into) {
            place = 0;
            parts = 0;
            for (int i = 0; i < ALL; i++) {
                isTold[i] = false;
            }
            into.reset();
            if (!readCorners(text, into)) {
                return place;
            }
            for (parts = 1; parts <= ALL && place < text.size(); parts++) {
                if (!readPart(text, into)) {
                    return place;
                }
            }
            return NONE;
        }

        private boolean readCorners(Text text, Town into) {
            if (text.byteAt(place) != 'N') {
                return false;
            }
            place++;
            int corners = take(text, 1, CORNERS);
            if (corners == NONE) {
                return false;
            }
            into.corners = corners;
            return true;
        }

        private boolean readPart(Text text, Town into) {
            switch (text.byteAt(place)) {
                case 'K': return readShare(text, into);
                case 'W': return readWants(text, into);
                case 'G': return readNext(text, into);
                case 'C': return readPrice(text, into, COST);
                case 'P': return readPrice(text, into, BRINGS);
                case 'R': return readPrice(text, into, LEFT);
                default: return false;
            }
        }

        private boolean readShare(Text text, Town into) {
            if (allTold(SHARES, KINDS)) {
                return false;
            }
            place++;
            int kind = takeUntold(text, KINDS - 1, SHARES);
            int share = kind == NONE ? NONE : take(text, 1, 9);
            if (share == NONE) {
                return false;
            }
            into.setShare(kind, share);
            return true;
        }

        private boolean readWants(Text text, Town into) {
            if (allTold(WANTS, into.corners * KINDS)) {
                return false;
            }
            place++;
            int corner = figure(text, 0, into.corners - 1);
            if (corner == NONE || allTold(WANTS + corner * KINDS, KINDS)) {
                return false;
            }
            place++;
            int kind = takeUntold(text, KINDS - 1, WANTS + corner * KINDS);
            int b = kind == NONE ? NONE : take(text, 0, 3);
            int x = b == NONE ? NONE : take(text, 0, 9);
            if (x == NONE) {
                return false;
            }
            into.setWants(corner, kind, b, x);
            return true;
        }

        private boolean readNext(Text text, Town into) {
            // In a town of one corner there is no other one to go on to.
            if (into.corners == 1 || allTold(NEXTS, into.corners)) {
                return false;
            }
            place++;
            int corner = takeUntold(text, into.corners - 1, NEXTS);
            int to = corner == NONE ? NONE : figure(text, 0, into.corners - 1);
            if (to == NONE || to == corner) {
                return false;
            }
            place++;
            into.setNext(corner, to);
            return true;
        }

        private boolean readPrice(Text text, Town into, int which) {
            if (!tell(which)) {
                return false;
            }
            place++;
            int tens = take(text, 0, 9);
            int ones = tens == NONE ? NONE : take(text, 0, 9);
            if (ones == NONE) {
                return false;
            }
            int price = tens * 10 + ones;
            if (which == COST) {
                into.cost = price;
            } else if (which == BRINGS) {
                into.brings = price;
            } else {
                into.leftBrings = price;
            }
            return true;
        }

        private int figure(Text text, int least, int most) {
            int figure = text.byteAt(place) - '0';
            return figure < least || figure > most ? NONE : figure;
        }

        /** Goes on behind the figure; by NONE the place stays where it is. */
        private int take(Text text, int least, int most) {
            int figure = figure(text, least, most);
            if (figure != NONE) {
                place++;
            }
            return figure;
        }

        private int takeUntold(Text text, int most, int first) {
            int figure = figure(text, 0, most);
            if (figure == NONE || !tell(first + figure)) {
                return NONE;
            }
            place++;
            return figure;
        }

        /** False: it has been told, or there is no such thing to tell. */
        private boolean tell(int thing) {
            if (thing < 0 || thing >= ALL || isTold[thing]) {
                return false;
            }
            isTold[thing] = true;
            return true;
        }

        private boolean allTold(int from, int many) {
            for (int i = Math.max(from, 0); i < from + many && i < ALL; i++) {
                if (!isTold[i]) {
                    return false;
                }
            }
            return true;
        }
    }

    // ---- corners apart

    /** All chances and means are told as so many parts of one whole, so that whole numbers compare them. */
    private static final class Apart {
        private static final int ROW = MOST_PAPERS + 1;
        private static final int MILLION = 1000000;

        private final long[] sold = new long[CORNERS * ROW];
        private final long[] out = new long[CORNERS * ROW];
        private final long[] chances = new long[HALF_HOURS + 1];
        private final int[] given = new int[CORNERS];
        private long whole = 1;

        void reckon(Town town) {
            Arrays.fill(out, 0);
            whole = 0;
            for (int kind = 0; kind < KINDS; kind++) {
                whole += (long) MILLION * town.shareOf(kind);
            }
            for (int corner = 0; corner < town.corners && corner < CORNERS; corner++) {
                for (int kind = 0; kind < KINDS; kind++) {
                    addKind(corner, town.comesTo(corner, kind), town.tenthsAt(corner, kind), town.shareOf(kind));
                }
                sumUp(corner);
            }
        }

        private void addKind(int corner, int b, int x, int share) {
            reckonChances(x);
            for (int extra = 0; extra <= HALF_HOURS; extra++) {
                int oneLess = HALF_HOURS * b + extra - 1;
                if (holds(corner, oneLess)) {
                    out[corner * ROW + oneLess] += chances[extra] * share;
                }
            }
        }

        /** How likely one more comes in so many of the half hours, in millionths. */
        private void reckonChances(int x) {
            Arrays.fill(chances, 0);
            chances[0] = 1;
            for (int half = 1; half <= HALF_HOURS; half++) {
                for (int extra = half; extra >= 1; extra--) {
                    chances[extra] = chances[extra] * (10 - x) + chances[extra - 1] * x;
                }
                chances[0] *= 10 - x;
            }
        }

        /** Of the chances that just so many come to those that more come, and from these to what is sold. */
        private void sumUp(int corner) {
            if (!isRow(corner)) {
                return;
            }
            int first = corner * ROW;
            for (int g = MOST_PAPERS - 1; g >= 0; g--) {
                out[first + g] += out[first + g + 1];
            }
            sold[first] = 0;
            for (int g = 1; g <= MOST_PAPERS; g++) {
                sold[first + g] = sold[first + g - 1] + out[first + g - 1];
            }
        }

        long whole() {
            return whole;
        }

        private boolean holds(int corner, int g) {
            return isRow(corner) && isPapers(g);
        }

        long soldOf(int corner, int g) {
            return holds(corner, g) ? sold[corner * ROW + g] : 0;
        }

        long outOf(int corner, int g) {
            return holds(corner, g) ? out[corner * ROW + g] : 0;
        }

        int givenTo(Town town, int p, int corner) {
            giveNone();
            giveAll(town, p, NONE);
            return isRow(corner) ? given[corner] : 0;
        }

        long earnedBy(Town town, int p) {
            giveNone();
            giveAll(town, p, NONE);
            return earnedAsGiven(town, p);
        }

        long earnedWithNephew(Town town, int p, int corner, int n) {
            giveNone();
            if (isRow(corner)) {
                given[corner] = n;
            }
            giveAll(town, p - n, corner);
            return earnedAsGiven(town, p);
        }

        int bestPrint(Town town) {
            giveNone();
            int best = 0;
            long most = earnedAsGiven(town, 0);
            for (int p = 1; p <= MOST_PAPERS; p++) {
                giveOne(town, NONE);
                long earned = earnedAsGiven(town, p);
                if (earned > most) {
                    most = earned;
                    best = p;
                }
            }
            return best;
        }

        private void giveNone() {
            Arrays.fill(given, 0);
        }

        private void giveAll(Town town, int papers, int but) {
            for (int i = 0; i < papers; i++) {
                giveOne(town, but);
            }
        }

        private void giveOne(Town town, int but) {
            int to = NONE;
            for (int corner = 0; corner < town.corners && corner < CORNERS; corner++) {
                if (corner != but && (!isRow(to) || outOf(corner, given[corner]) > outOf(to, given[to]))) {
                    to = corner;
                }
            }
            if (isRow(to)) {
                given[to]++;
            }
        }

        private long earnedAsGiven(Town town, int p) {
            long soldInAll = 0;
            for (int corner = 0; corner < town.corners && corner < CORNERS; corner++) {
                soldInAll += soldOf(corner, given[corner]);
            }
            long left = p * whole - soldInAll;
            return soldInAll * town.brings + left * town.leftBrings - p * whole * town.cost;
        }
    }

    // ---- days

    private static final class Sightings {
        private static final int MOST = 8;

        private final int[] corners = new int[MOST];
        private final int[] numbers = new int[MOST];
        private int size = 0;

        int size() {
            return size;
        }

        boolean add(int corner, int number) {
            if (size >= MOST) {
                return false;
            }
            corners[size] = corner;
            numbers[size] = number;
            size++;
            return true;
        }

        int empty() {
            int before = size;
            size = 0;
            return before;
        }

        long weight(Town town, int kind) {
            long weight = town.shareOf(kind);
            for (int i = 0; i < size && i < MOST; i++) {
                int over = numbers[i] - town.comesTo(corners[i], kind);
                int x = town.tenthsAt(corners[i], kind);
                weight *= over == 1 ? x : over == 0 ? 10 - x : 0;
            }
            return weight;
        }

        long weightOfAll(Town town) {
            long sum = 0;
            for (int kind = 0; kind < KINDS; kind++) {
                sum += weight(town, kind);
            }
            return sum;
        }

        int heaviest(Town town) {
            int best = 0;
            for (int kind = 1; kind < KINDS; kind++) {
                if (weight(town, kind) > weight(town, best)) {
                    best = kind;
                }
            }
            return best;
        }

        int mostUnlike(Town town) {
            int best = 0;
            for (int corner = 1; corner < town.corners; corner++) {
                if (unlikeAt(town, corner) > unlikeAt(town, best)) {
                    best = corner;
                }
            }
            return best;
        }

        private int unlikeAt(Town town, int corner) {
            int unlike = 0;
            for (int kind = 0; kind < KINDS; kind++) {
                if (weight(town, kind) > 0 && !isLikeAnEarlierOne(town, corner, kind)) {
                    unlike++;
                }
            }
            return unlike;
        }

        private boolean isLikeAnEarlierOne(Town town, int corner, int kind) {
            for (int earlier = 0; earlier < kind; earlier++) {
                if (weight(town, earlier) > 0
                        && town.comesTo(corner, earlier) == town.comesTo(corner, kind)
                        && town.tenthsAt(corner, earlier) == town.tenthsAt(corner, kind)) {
                    return true;
                }
            }
            return false;
        }
    }

    // ---- the van

    /** From the last half hour back: what is sold in the mean by as many papers at both corners and in the van. */
    private static final class VanPlan {
        private static final int MOST = 12;
        private static final int SIDE = MOST + 1;
        private static final int CELLS = SIDE * SIDE * SIDE;
        private static final int TO_OTHER = 100;

        // Before the van gives in a half hour, and behind it.
        private final long[] ahead = new long[CELLS];
        private final long[] behind = new long[CELLS];
        private long whole = 1;
        private int comesToOne;
        private int comesToOther;
        private int tenthsAtOne;
        private int tenthsAtOther;

        static boolean holds(int one, int other, int van) {
            return isSome(one) && isSome(other) && isSome(van) && one + other + van <= MOST;
        }

        private static boolean isSome(int papers) {
            return papers >= 0 && papers <= MOST;
        }

        private static int cell(int one, int other, int van) {
            int cell = (one * SIDE + other) * SIDE + van;
            return cell >= 0 && cell < CELLS ? cell : 0;
        }

        void choose(Town town, int one, int other, int kind) {
            comesToOne = town.comesTo(one, kind);
            comesToOther = town.comesTo(other, kind);
            tenthsAtOne = town.tenthsAt(one, kind);
            tenthsAtOther = town.tenthsAt(other, kind);
        }

        long whole() {
            return whole;
        }

        void reckon(int atCorners, int inVan, int t) {
            Arrays.fill(ahead, 0);
            Arrays.fill(behind, 0);
            whole = 1;
            for (int left = 1; left <= t; left++) {
                if (left > 1) {
                    fillAhead(atCorners + inVan, inVan);
                }
                fillBehind(atCorners + inVan, inVan);
                whole *= 100;
            }
        }

        private void fillAhead(int papers, int inVan) {
            for (int one = 0; one <= papers; one++) {
                for (int other = 0; one + other <= papers; other++) {
                    for (int van = 0; van <= inVan && one + other + van <= papers; van++) {
                        ahead[cell(one, other, van)] = bestOf(one, other, van);
                    }
                }
            }
        }

        private void fillBehind(int papers, int inVan) {
            for (int one = 0; one <= papers; one++) {
                for (int other = 0; one + other <= papers; other++) {
                    for (int van = 0; van <= inVan && one + other + van <= papers; van++) {
                        behind[cell(one, other, van)] = mean(one, other, van);
                    }
                }
            }
        }

        private long mean(int one, int other, int van) {
            long sum = 0;
            for (int moreToOne = 0; moreToOne <= 1; moreToOne++) {
                for (int moreToOther = 0; moreToOther <= 1; moreToOther++) {
                    int chance = (moreToOne == 1 ? tenthsAtOne : 10 - tenthsAtOne)
                            * (moreToOther == 1 ? tenthsAtOther : 10 - tenthsAtOther);
                    int soldAtOne = Math.min(one, comesToOne + moreToOne);
                    int soldAtOther = Math.min(other, comesToOther + moreToOther);
                    long later = ahead[cell(one - soldAtOne, other - soldAtOther, van)];
                    sum += chance * ((soldAtOne + soldAtOther) * whole + later);
                }
            }
            return sum;
        }

        long bestOf(int one, int other, int van) {
            long best = behind[cell(one, other, van)];
            for (int m = 1; m <= van; m++) {
                best = Math.max(best, behind[cell(one + m, other, van - m)]);
                best = Math.max(best, behind[cell(one, other + m, van - m)]);
            }
            return best;
        }

        int firstMove(int one, int other, int van) {
            long best = bestOf(one, other, van);
            if (behind[cell(one, other, van)] == best) {
                return 0;
            }
            for (int m = 1; m <= van; m++) {
                if (behind[cell(one + m, other, van - m)] == best) {
                    return m;
                }
                if (behind[cell(one, other + m, van - m)] == best) {
                    return TO_OTHER + m;
                }
            }
            return 0;
        }
    }

    // ---- a morning

    /** All that is told of a morning, and the habits. */
    private static final class Morning {
        private static final int MOST_ORDERS = 6;
        private static final int MOST_ORDERED = 20;
        private static final int STAY = 0;
        private static final int RING = 1;
        private static final int SHARE = 2;
        private static final int FIRST_HABIT = 5;
        private static final int MOST_HABIT = 9;
        private static final int FEW_COME_BELOW = 3;
        private static final int MANY_COME_ABOVE = 7;

        private final int[] gives = new int[CORNERS];
        private final int[] habits = new int[CORNERS];
        private final int[] bits = new int[CORNERS];
        private final int[] orderHours = new int[MOST_ORDERS];
        private final int[] orderCorners = new int[MOST_ORDERS];
        private final int[] orderPapers = new int[MOST_ORDERS];
        private int kind;
        private int van;
        private int rule;
        private int ruleNumber;
        private int orders;

        Morning() {
            reset();
        }

        void reset() {
            Arrays.fill(gives, 0);
            Arrays.fill(habits, FIRST_HABIT);
            Arrays.fill(bits, 0);
            kind = 0;
            van = 0;
            rule = STAY;
            ruleNumber = 0;
            orders = 0;
        }

        void copyFrom(Morning other) {
            System.arraycopy(other.gives, 0, gives, 0, CORNERS);
            System.arraycopy(other.habits, 0, habits, 0, CORNERS);
            System.arraycopy(other.bits, 0, bits, 0, CORNERS);
            System.arraycopy(other.orderHours, 0, orderHours, 0, MOST_ORDERS);
            System.arraycopy(other.orderCorners, 0, orderCorners, 0, MOST_ORDERS);
            System.arraycopy(other.orderPapers, 0, orderPapers, 0, MOST_ORDERS);
            kind = other.kind;
            van = other.van;
            rule = other.rule;
            ruleNumber = other.ruleNumber;
            orders = other.orders;
        }

        static boolean isRule(int rule, int number) {
            switch (rule) {
                case STAY: return number == 0;
                case RING: return number >= 1 && number <= MOST_ORDERED;
                case SHARE: return isHalfHour(number);
                default: return false;
            }
        }

        int givesAt(int corner) {
            return isRow(corner) ? gives[corner] : 0;
        }

        int habitAt(int corner) {
            return isRow(corner) ? habits[corner] : 0;
        }

        boolean isMoreTold(int corner, int halfHour) {
            return isRow(corner) && isHalfHour(halfHour) && (bits[corner] >> halfHour & 1) == 1;
        }

        int setGives(int corner, int papers) {
            int before = givesAt(corner);
            if (isRow(corner)) {
                gives[corner] = papers;
            }
            return before;
        }

        int setMore(int corner, int told) {
            if (!isRow(corner)) {
                return 0;
            }
            int before = bits[corner];
            bits[corner] = told;
            return before;
        }

        boolean addOrder(int halfHour, int corner, int papers) {
            if (orders >= MOST_ORDERS) {
                return false;
            }
            orderHours[orders] = halfHour;
            orderCorners[orders] = corner;
            orderPapers[orders] = papers;
            orders++;
            return true;
        }

        int givenOut() {
            int sum = 0;
            for (int corner = 0; corner < CORNERS; corner++) {
                sum += gives[corner];
            }
            return sum;
        }

        /** Whether the habit is less by it. */
        boolean changeHabit(int corner, boolean allServed) {
            if (!isRow(corner)) {
                return false;
            }
            int before = habits[corner];
            habits[corner] = allServed ? Math.min(before + 1, MOST_HABIT) : Math.max(before - 1, 0);
            return habits[corner] < before;
        }

        int comeByHabit(int corner, int b) {
            int habit = habitAt(corner);
            if (habit < FEW_COME_BELOW) {
                return Math.max(b - 1, 0);
            }
            return habit > MANY_COME_ABOVE ? b + 1 : b;
        }
    }

    /** A morning as it goes: what stands in its rows is told of the last one that was run. */
    private static final class Run {
        private static final int ROWS = CORNERS * HALF_HOURS;

        private final int[] papersBehind = new int[ROWS];
        private final int[] soldBehind = new int[ROWS];
        private final int[] came = new int[ROWS];
        private final int[] without = new int[ROWS];
        private final int[] has = new int[CORNERS];
        private final int[] sold = new int[CORNERS];
        private int corners;
        private int van;
        private int home;
        private int crier = NONE;
        private int secondCorner = NONE;
        private int secondHour = NONE;
        private int secondPapers = 0;

        void plain(Town town, Morning told) {
            crier = NONE;
            secondCorner = NONE;
            go(town, told);
        }

        void withCrier(Town town, Morning told, int corner) {
            crier = corner;
            secondCorner = NONE;
            go(town, told);
        }

        void withSecond(Town town, Morning told, int corner, int halfHour, int papers) {
            crier = NONE;
            secondCorner = corner;
            secondHour = halfHour;
            secondPapers = papers;
            go(town, told);
        }

        private void go(Town town, Morning told) {
            corners = town.corners;
            van = told.van;
            home = 0;
            for (int corner = 0; corner < corners && corner < CORNERS; corner++) {
                has[corner] = told.givesAt(corner);
                sold[corner] = 0;
            }
            for (int halfHour = 0; halfHour < HALF_HOURS; halfHour++) {
                giveByOrders(told, halfHour);
                giveByRule(told, halfHour);
                giveSecond(halfHour);
                for (int corner = 0; corner < corners; corner++) {
                    sell(town, told, corner, halfHour);
                }
            }
        }

        private void giveByOrders(Morning told, int halfHour) {
            for (int i = 0; i < told.orders && i < Morning.MOST_ORDERS; i++) {
                if (told.orderHours[i] == halfHour) {
                    giveFromVan(told.orderCorners[i], told.orderPapers[i]);
                }
            }
        }

        private void giveByRule(Morning told, int halfHour) {
            if (told.rule == Morning.RING && halfHour > 0) {
                for (int corner = 0; corner < corners && corner < CORNERS; corner++) {
                    if (has[corner] == 0) {
                        giveFromVan(corner, told.ruleNumber);
                    }
                }
            }
            if (told.rule == Morning.SHARE && halfHour == told.ruleNumber) {
                int all = van;
                for (int i = 0; i < all && corners > 0; i++) {
                    giveFromVan(i % corners, 1);
                }
            }
        }

        private void giveFromVan(int corner, int papers) {
            if (isRow(corner)) {
                int some = Math.min(papers, van);
                has[corner] += some;
                van -= some;
            }
        }

        private void giveSecond(int halfHour) {
            if (halfHour == secondHour && isRow(secondCorner)) {
                has[secondCorner] += secondPapers;
            }
        }

        private void sell(Town town, Morning told, int corner, int halfHour) {
            if (!isRow(corner)) {
                return;
            }
            int come = told.comeByHabit(corner, town.comesTo(corner, told.kind)) + comeOn(town, corner, halfHour);
            if (corner == crier || told.isMoreTold(corner, halfHour)) {
                come++;
            }
            int buy = Math.min(come, has[corner]);
            has[corner] -= buy;
            sold[corner] += buy;
            int row = row(corner, halfHour);
            papersBehind[row] = has[corner];
            soldBehind[row] = sold[corner];
            came[row] = come;
            without[row] = come - buy;
            if (halfHour == HALF_HOURS - 1 || town.nextFrom(corner) == NONE) {
                home += come - buy;
            }
        }

        /** Who goes on to a corner from the half hour before. */
        private int comeOn(Town town, int corner, int halfHour) {
            int come = 0;
            for (int from = 0; from < corners && halfHour > 0; from++) {
                if (town.nextFrom(from) == corner) {
                    come += without[row(from, halfHour - 1)];
                }
            }
            return come;
        }

        private static int row(int corner, int halfHour) {
            int row = corner * HALF_HOURS + halfHour;
            return row >= 0 && row < ROWS ? row : 0;
        }

        int tellBehind(int corner, int halfHour, int what) {
            int row = row(corner, halfHour);
            switch (what) {
                case 0: return papersBehind[row];
                case 1: return soldBehind[row];
                case 2: return came[row];
                default: return without[row];
            }
        }

        int soldBy(int corner, int halfHour) {
            return soldBehind[row(corner, halfHour)];
        }

        int firstWithout(int corner) {
            for (int halfHour = 0; halfHour < HALF_HOURS; halfHour++) {
                if (without[row(corner, halfHour)] > 0) {
                    return halfHour;
                }
            }
            return NONE;
        }

        int soldInAll() {
            int sum = 0;
            for (int corner = 0; corner < corners && corner < CORNERS; corner++) {
                sum += sold[corner];
            }
            return sum;
        }

        int leftAtCorners() {
            int sum = 0;
            for (int corner = 0; corner < corners && corner < CORNERS; corner++) {
                sum += has[corner];
            }
            return sum;
        }

        int leftInVan() {
            return van;
        }

        int wentHome() {
            return home;
        }

        int earnedAtEnd(Town town, Morning told) {
            int left = leftAtCorners() + van;
            int cost = (told.givenOut() + told.van) * town.cost;
            return soldInAll() * town.brings + left * town.leftBrings - cost;
        }
    }
}
