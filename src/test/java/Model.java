import java.math.BigInteger;
import java.util.ArrayList;
import java.util.HashMap;
import java.util.HashSet;
import java.util.List;
import java.util.Map;
import java.util.Set;
import java.util.TreeMap;

/** The document once more, as slowly and plainly as it reads, and otherwise built than the program: to compare with. */
final class Model {
    private static final int UNKNOWN = -1, OUTSIDE = -2, STATE = -3, FULL = -4, NONE = -9;

    private String text = "";
    private Map<String, String> town = partsOf("N1");
    private final List<int[]> seen = new ArrayList<>();
    private Told told = new Told();
    private final Map<Integer, Told> kept = new HashMap<>();

    private static final class Told {
        int kind = 0, v = 0, rule = 0, r = 0;
        int[] gives = new int[3], habits = {5, 5, 5}, bits = new int[3];
        List<int[]> orders = new ArrayList<>();

        Told copy() {
            Told t = new Told();
            t.kind = kind;
            t.v = v;
            t.rule = rule;
            t.r = r;
            t.gives = gives.clone();
            t.habits = habits.clone();
            t.bits = bits.clone();
            t.orders = new ArrayList<>(orders);
            return t;
        }

        int givenOut() {
            return gives[0] + gives[1] + gives[2];
        }
    }

    // ---- the town

    /** The parts by their letter and what goes with it; null: it is no town. */
    private static Map<String, String> partsOf(String text) {
        Map<String, String> parts = new TreeMap<>();
        String letters = "NKWGCPR";
        int[] lengths = {2, 3, 5, 3, 3, 3, 3};
        int[] keys = {1, 2, 3, 2, 1, 1, 1};
        int n = 0;
        for (int at = 0; at < text.length();) {
            int letter = letters.indexOf(text.charAt(at));
            if (letter < 0 || at + lengths[letter] > text.length()) {
                return null;
            }
            String part = text.substring(at, at + lengths[letter]);
            if ((at == 0) != (letter == 0) || !isPart(part, n)) {
                return null;
            }
            if (letter == 0) {
                n = part.charAt(1) - '0';
            }
            if (parts.put(part.substring(0, keys[letter]), part.substring(keys[letter])) != null) {
                return null;
            }
            at += lengths[letter];
        }
        return parts.isEmpty() ? null : parts;
    }

    private static boolean isPart(String part, int n) {
        String corner = n == 0 ? "[]" : "[0-" + (n - 1) + "]";
        switch (part.charAt(0)) {
            case 'N': return part.matches("N[1-3]");
            case 'K': return part.matches("K[0-2][1-9]");
            case 'W': return n > 0 && part.matches("W" + corner + "[0-2][0-3][0-9]");
            case 'G': return n > 0 && part.matches("G" + corner + corner) && part.charAt(1) != part.charAt(2);
            default: return part.matches("[CPR][0-9][0-9]");
        }
    }

    private static boolean canBecomeTown(String start, int more) {
        if (partsOf(start) != null) {
            return true;
        }
        if (more == 0) {
            return false;
        }
        if (start.isEmpty()) {
            return true;
        }
        for (char c = '0'; c <= '9'; c++) {
            if (canBecomeTown(start + c, more - 1)) {
                return true;
            }
        }
        return false;
    }

    int fault() {
        for (int i = 1; i <= text.length(); i++) {
            if (!canBecomeTown(text.substring(0, i), 4)) {
                return i - 1;
            }
        }
        return partsOf(text) == null ? text.length() : NONE;
    }

    int write(int n, long v) {
        if (n < 1 || n > 8) {
            return OUTSIDE;
        }
        if (text.length() + n > 64) {
            return FULL;
        }
        byte[] all = java.nio.ByteBuffer.allocate(8).putLong(v).array();
        for (int i = 8 - n; i < 8; i++) {
            text += (char) (all[i] & 0xff);
        }
        return text.length();
    }

    int wipe() {
        int before = text.length();
        text = "";
        return before;
    }

    int town() {
        Map<String, String> parts = partsOf(text);
        if (parts == null) {
            return STATE;
        }
        town = parts;
        seen.clear();
        told = new Told();
        kept.clear();
        return parts.size();
    }

    private int number(String key, int otherwise) {
        return town.containsKey(key) ? Integer.parseInt(town.get(key)) : otherwise;
    }

    private int n() {
        return number("N", 1);
    }

    private int share(int kind) {
        return number("K" + kind, 1);
    }

    private int b(int corner, int kind) {
        return number("W" + corner + kind, 15) / 10;
    }

    private int x(int corner, int kind) {
        return number("W" + corner + kind, 15) % 10;
    }

    private int next(int corner) {
        return number("G" + corner, NONE);
    }

    private int cost() {
        return number("C", 10);
    }

    private int brings() {
        return number("P", 20);
    }

    private int leftBrings() {
        return number("R", 5);
    }

    private static boolean in(int x, int least, int most) {
        return x >= least && x <= most;
    }

    private boolean isCorner(int corner) {
        return in(corner, 0, n() - 1);
    }

    int wants(int corner, int kind, int what) {
        if (!isCorner(corner) || !in(kind, 0, 2)) {
            return UNKNOWN;
        }
        return what == 0 ? b(corner, kind) : what == 1 ? x(corner, kind) : OUTSIDE;
    }

    int about(int what) {
        switch (what) {
            case 0: return n();
            case 1: case 2: case 3: return share(what - 1);
            case 4: return cost();
            case 5: return brings();
            case 6: return leftBrings();
            case 7: case 8: case 9: return isCorner(what - 7) ? next(what - 7) : UNKNOWN;
            default: return OUTSIDE;
        }
    }

    // ---- corners apart

    private static final class Fraction {
        final BigInteger above, below;

        Fraction(BigInteger above, BigInteger below) {
            BigInteger g = above.gcd(below);
            this.above = above.divide(g);
            this.below = below.divide(g);
        }

        Fraction(long whole) {
            this(BigInteger.valueOf(whole), BigInteger.ONE);
        }

        Fraction plus(Fraction o) {
            return new Fraction(above.multiply(o.below).add(o.above.multiply(below)), below.multiply(o.below));
        }

        Fraction times(Fraction o) {
            return new Fraction(above.multiply(o.above), below.multiply(o.below));
        }

        Fraction minus(Fraction o) {
            return plus(o.times(new Fraction(-1)));
        }

        int compareTo(Fraction o) {
            return above.multiply(o.below).compareTo(o.above.multiply(below));
        }

        long told(boolean upper) {
            return (upper ? above : below).longValueExact();
        }
    }

    private final Map<String, Map<Integer, Fraction>> wantsKnown = new HashMap<>();

    /** By how many come in all, how likely that is, over the 64 mornings in which one more comes here or there. */
    private Map<Integer, Fraction> wantsOf(int corner) {
        return wantsKnown.computeIfAbsent(town + "/" + corner, k -> reckonWants(corner));
    }

    private Map<Integer, Fraction> reckonWants(int corner) {
        Map<Integer, Fraction> chances = new TreeMap<>();
        int shares = share(0) + share(1) + share(2);
        for (int kind = 0; kind < 3; kind++) {
            for (int morning = 0; morning < 64; morning++) {
                int extra = Integer.bitCount(morning);
                BigInteger ways = BigInteger.valueOf(x(corner, kind)).pow(extra)
                        .multiply(BigInteger.valueOf(10 - x(corner, kind)).pow(6 - extra))
                        .multiply(BigInteger.valueOf(share(kind)));
                Fraction chance = new Fraction(ways, BigInteger.valueOf(1000000L * shares));
                int wants = 6 * b(corner, kind) + extra;
                chances.put(wants, chances.getOrDefault(wants, new Fraction(0)).plus(chance));
            }
        }
        return chances;
    }

    private Fraction soldOf(int corner, int g) {
        Fraction sum = new Fraction(0);
        for (Map.Entry<Integer, Fraction> e : wantsOf(corner).entrySet()) {
            sum = sum.plus(e.getValue().times(new Fraction(Math.min(g, e.getKey()))));
        }
        return sum;
    }

    private Fraction outOf(int corner, int g) {
        Fraction sum = new Fraction(0);
        for (Map.Entry<Integer, Fraction> e : wantsOf(corner).entrySet()) {
            if (e.getKey() > g) {
                sum = sum.plus(e.getValue());
            }
        }
        return sum;
    }

    long sold(int corner, int g, boolean upper) {
        return !isCorner(corner) ? UNKNOWN : !in(g, 0, 60) ? OUTSIDE : soldOf(corner, g).told(upper);
    }

    long out(int corner, int g, boolean upper) {
        return !isCorner(corner) ? UNKNOWN : !in(g, 0, 60) ? OUTSIDE : outOf(corner, g).told(upper);
    }

    private final Map<String, Fraction> outKnown = new HashMap<>();

    private Fraction outKnown(int corner, int g) {
        return outKnown.computeIfAbsent(town + "/" + corner + "/" + g, k -> outOf(corner, g));
    }

    private int[] give(int papers, int but) {
        int[] given = new int[3];
        for (int i = 0; i < papers; i++) {
            int to = -1;
            for (int corner = n() - 1; corner >= 0; corner--) {
                if (corner != but && (to < 0
                        || outKnown(corner, given[corner]).compareTo(outKnown(to, given[to])) >= 0)) {
                    to = corner;
                }
            }
            if (to >= 0) {
                given[to]++;
            }
        }
        return given;
    }

    private Fraction earnedSo(int p, int[] given) {
        Fraction sold = new Fraction(0);
        for (int corner = 0; corner < n(); corner++) {
            sold = sold.plus(soldOf(corner, given[corner]));
        }
        Fraction left = new Fraction(p).minus(sold);
        return sold.times(new Fraction(brings())).plus(left.times(new Fraction(leftBrings())))
                .minus(new Fraction((long) p * cost()));
    }

    int given(int p, int corner) {
        return !isCorner(corner) ? UNKNOWN : !in(p, 0, 60) ? OUTSIDE : give(p, -1)[corner];
    }

    long earned(int p, boolean upper) {
        if (!in(p, 0, 60)) {
            return OUTSIDE;
        }
        return earnedSo(p, give(p, -1)).told(upper) + (upper ? 1000000 : 0);
    }

    int print() {
        int best = 60;
        for (int p = 59; p >= 0; p--) {
            if (earnedSo(p, give(p, -1)).compareTo(earnedSo(best, give(best, -1))) >= 0) {
                best = p;
            }
        }
        return best;
    }

    long loss(int p, int corner, int n, boolean upper) {
        if (!isCorner(corner)) {
            return UNKNOWN;
        }
        if (!in(p, 0, 60) || !in(n, 0, p)) {
            return OUTSIDE;
        }
        int[] given = give(p - n, corner);
        given[corner] = n;
        return earnedSo(p, give(p, -1)).minus(earnedSo(p, given)).told(upper);
    }

    // ---- days

    int see(int corner, int v) {
        if (!isCorner(corner)) {
            return UNKNOWN;
        }
        if (!in(v, 0, 9)) {
            return OUTSIDE;
        }
        if (seen.size() == 8) {
            return FULL;
        }
        seen.add(new int[] {corner, v});
        return seen.size();
    }

    int unsee() {
        int before = seen.size();
        seen.clear();
        return before;
    }

    private long weight(int kind) {
        long w = share(kind);
        for (int[] s : seen) {
            if (s[1] == b(s[0], kind) + 1) {
                w *= x(s[0], kind);
            } else if (s[1] == b(s[0], kind)) {
                w *= 10 - x(s[0], kind);
            } else {
                w = 0;
            }
        }
        return w;
    }

    private long weightOfAll() {
        return weight(0) + weight(1) + weight(2);
    }

    long likely(int kind, boolean upper) {
        if (!in(kind, 0, 2)) {
            return UNKNOWN;
        }
        if (weightOfAll() == 0) {
            return STATE;
        }
        return new Fraction(BigInteger.valueOf(weight(kind)), BigInteger.valueOf(weightOfAll())).told(upper);
    }

    int likeliest() {
        if (weightOfAll() == 0) {
            return STATE;
        }
        long most = Math.max(weight(0), Math.max(weight(1), weight(2)));
        return weight(0) == most ? 0 : weight(1) == most ? 1 : 2;
    }

    int ask() {
        if (weightOfAll() == 0) {
            return STATE;
        }
        int best = 0, most = 0;
        for (int corner = 0; corner < n(); corner++) {
            Set<Integer> unlike = new HashSet<>();
            for (int kind = 0; kind < 3; kind++) {
                if (weight(kind) > 0) {
                    unlike.add(number("W" + corner + kind, 15));
                }
            }
            if (unlike.size() > most) {
                most = unlike.size();
                best = corner;
            }
        }
        return best;
    }

    // ---- the van

    private final Map<String, Fraction> planKnown = new HashMap<>();

    private Fraction bestMean(int one, int other, int kind, int a, int o, int van, int t) {
        if (t == 0) {
            return new Fraction(0);
        }
        String key = town + "/" + one + other + kind + "/" + a + "/" + o + "/" + van + "/" + t;
        Fraction known = planKnown.get(key);
        if (known == null) {
            known = new Fraction(-1);
            for (int m = 0; m <= van; m++) {
                Fraction first = meanBehind(one, other, kind, a + m, o, van - m, t);
                Fraction second = meanBehind(one, other, kind, a, o + m, van - m, t);
                known = first.compareTo(known) > 0 ? first : known;
                known = second.compareTo(known) > 0 ? second : known;
            }
            planKnown.put(key, known);
        }
        return known;
    }

    private Fraction meanBehind(int one, int other, int kind, int a, int o, int van, int t) {
        String key = town + "+" + one + other + kind + "/" + a + "/" + o + "/" + van + "/" + t;
        Fraction known = planKnown.get(key);
        if (known != null) {
            return known;
        }
        Fraction sum = new Fraction(0);
        for (int more = 0; more < 4; more++) {
            int atOne = Math.min(a, b(one, kind) + more / 2);
            int atOther = Math.min(o, b(other, kind) + more % 2);
            int likeAtOne = more / 2 == 1 ? x(one, kind) : 10 - x(one, kind);
            int likeAtOther = more % 2 == 1 ? x(other, kind) : 10 - x(other, kind);
            Fraction chance = new Fraction(BigInteger.valueOf(likeAtOne * likeAtOther), BigInteger.valueOf(100));
            Fraction later = bestMean(one, other, kind, a - atOne, o - atOther, van, t - 1);
            sum = sum.plus(chance.times(later.plus(new Fraction(atOne + atOther))));
        }
        planKnown.put(key, sum);
        return sum;
    }

    private int planRefusal(int corners, int kind, int papers, int van, int t, int leastT) {
        if (corners < 0 || !isCorner(corners / 10) || !isCorner(corners % 10) || !in(kind, 0, 2)) {
            return UNKNOWN;
        }
        if (papers < 0 || !in(papers / 100, 0, 12) || !in(papers % 100, 0, 12) || !in(van, 0, 12)
                || papers / 100 + papers % 100 + van > 12 || !in(t, leastT, 6)) {
            return OUTSIDE;
        }
        return corners / 10 == corners % 10 ? STATE : 0;
    }

    long best(int corners, int kind, int papers, int van, int t, boolean upper) {
        int refusal = planRefusal(corners, kind, papers, van, t, 0);
        return refusal != 0 ? refusal
                : bestMean(corners / 10, corners % 10, kind, papers / 100, papers % 100, van, t).told(upper);
    }

    int now(int corners, int kind, int papers, int van, int t) {
        int refusal = planRefusal(corners, kind, papers, van, t, 1);
        if (refusal != 0) {
            return refusal;
        }
        int one = corners / 10, other = corners % 10, a = papers / 100, o = papers % 100;
        Fraction best = bestMean(one, other, kind, a, o, van, t);
        for (int m = 0; m <= van; m++) {
            if (meanBehind(one, other, kind, a + m, o, van - m, t).compareTo(best) == 0) {
                return m;
            }
            if (meanBehind(one, other, kind, a, o + m, van - m, t).compareTo(best) == 0) {
                return 100 + m;
            }
        }
        throw new IllegalStateException("nothing is best");
    }

    // ---- a morning

    int day(int kind) {
        if (!in(kind, 0, 2)) {
            return UNKNOWN;
        }
        int before = told.kind;
        told.kind = kind;
        return before;
    }

    int gives(int corner, int g) {
        if (!isCorner(corner)) {
            return UNKNOWN;
        }
        if (!in(g, 0, 60)) {
            return OUTSIDE;
        }
        int before = told.gives[corner];
        told.gives[corner] = g;
        return before;
    }

    int more(int corner, int bits) {
        if (!isCorner(corner)) {
            return UNKNOWN;
        }
        if (!in(bits, 0, 63)) {
            return OUTSIDE;
        }
        int before = told.bits[corner];
        told.bits[corner] = bits;
        return before;
    }

    int van(int v, int rule, int r) {
        if (!in(v, 0, 60) || !in(rule, 0, 2)) {
            return OUTSIDE;
        }
        int[] least = {0, 1, 0}, most = {0, 20, 5};
        if (!in(r, least[rule], most[rule])) {
            return OUTSIDE;
        }
        int before = told.v;
        told.v = v;
        told.rule = rule;
        told.r = r;
        return before;
    }

    int order(int halfHour, int corner, int m) {
        if (!in(halfHour, 0, 5) || !isCorner(corner)) {
            return UNKNOWN;
        }
        if (!in(m, 1, 20)) {
            return OUTSIDE;
        }
        if (told.orders.size() == 6) {
            return FULL;
        }
        told.orders.add(new int[] {halfHour, corner, m});
        return told.orders.size() - 1;
    }

    int unorder() {
        int before = told.orders.size();
        told.orders.clear();
        return before;
    }

    /** A morning, each paper and each who comes on its own. */
    private final class Walk {
        final int[][] papers = new int[3][6], sold = new int[3][6], came = new int[3][6], without = new int[3][6];
        int van, home, soldInAll;

        Walk(Told told, int crier, int secondCorner, int secondHour, int second) {
            int[] has = told.gives.clone();
            int[] soldAt = new int[3];
            van = told.v;
            List<Integer> onTheWay = new ArrayList<>();
            for (int h = 0; h < 6; h++) {
                for (int[] order : told.orders) {
                    for (int i = 0; order[0] == h && i < order[2] && van > 0; i++) {
                        van--;
                        has[order[1]]++;
                    }
                }
                for (int c = 0; told.rule == 1 && h > 0 && c < n(); c++) {
                    boolean rings = has[c] == 0;
                    for (int i = 0; rings && i < told.r && van > 0; i++) {
                        van--;
                        has[c]++;
                    }
                }
                for (int c = 0; told.rule == 2 && h == told.r && van > 0; c = (c + 1) % n()) {
                    van--;
                    has[c]++;
                }
                if (h == secondHour) {
                    has[secondCorner] += second;
                }
                List<Integer> come = onTheWay;
                onTheWay = new ArrayList<>();
                for (int c = 0; c < n(); c++) {
                    int b = b(c, told.kind);
                    if (told.habits[c] < 3 && b > 0) {
                        b--;
                    }
                    if (told.habits[c] > 7) {
                        b++;
                    }
                    if (c == crier || (told.bits[c] & (1 << h)) != 0) {
                        b++;
                    }
                    for (int i = 0; i < b; i++) {
                        come.add(c);
                    }
                }
                for (int c : come) {
                    came[c][h]++;
                    if (has[c] > 0) {
                        has[c]--;
                        soldAt[c]++;
                        soldInAll++;
                    } else {
                        without[c][h]++;
                        if (next(c) != NONE && h < 5) {
                            onTheWay.add(next(c));
                        } else {
                            home++;
                        }
                    }
                }
                for (int c = 0; c < 3; c++) {
                    papers[c][h] = has[c];
                    sold[c][h] = soldAt[c];
                }
            }
        }

        int leftAtCorners() {
            return papers[0][5] + papers[1][5] + papers[2][5];
        }
    }

    private Walk walk() {
        return new Walk(told, -1, -1, -1, 0);
    }

    int morning(int corner, int halfHour, int what) {
        if (!isCorner(corner) || !in(halfHour, 0, 5)) {
            return UNKNOWN;
        }
        Walk w = walk();
        return what == 0 ? w.papers[corner][halfHour] : what == 1 ? w.sold[corner][halfHour]
                : what == 2 ? w.came[corner][halfHour] : what == 3 ? w.without[corner][halfHour] : OUTSIDE;
    }

    int ended(int what) {
        Walk w = walk();
        switch (what) {
            case 0: return w.soldInAll;
            case 1: return w.leftAtCorners();
            case 2: return w.van;
            case 3: return w.home;
            case 4: return 100000 + w.soldInAll * brings() + (w.leftAtCorners() + w.van) * leftBrings()
                    - (told.givenOut() + told.v) * cost();
            default: return OUTSIDE;
        }
    }

    private static int firstWithout(Walk w, int corner) {
        for (int h = 0; h < 6; h++) {
            if (w.without[corner][h] > 0) {
                return h;
            }
        }
        return NONE;
    }

    int ranOut(int corner) {
        return isCorner(corner) ? firstWithout(walk(), corner) : UNKNOWN;
    }

    int habit(int corner) {
        return isCorner(corner) ? told.habits[corner] : UNKNOWN;
    }

    int days(int n) {
        if (!in(n, 1, 30)) {
            return OUTSIDE;
        }
        int less = 0;
        for (int i = 0; i < n; i++) {
            Walk w = walk();
            less = 0;
            for (int c = 0; c < n(); c++) {
                if (firstWithout(w, c) == NONE) {
                    told.habits[c] += told.habits[c] == 9 ? 0 : 1;
                } else if (told.habits[c] > 0) {
                    told.habits[c]--;
                    less++;
                }
            }
        }
        return less;
    }

    int second(int corner, int halfHour, int m, int c) {
        if (!isCorner(corner) || !in(halfHour, 0, 5)) {
            return UNKNOWN;
        }
        if (!in(m, 1, 60) || !in(c, 0, 20)) {
            return OUTSIDE;
        }
        int more = new Walk(told, -1, corner, halfHour, m).soldInAll - walk().soldInAll;
        return 100000 + more * brings() + (m - more) * leftBrings() - m * cost() - m * c;
    }

    private int paidSo(int corner, int x, int y) {
        return x * new Walk(told, x >= y ? corner : -1, -1, -1, 0).sold[corner][5];
    }

    int paid(int corner, int x, int y) {
        return !isCorner(corner) ? UNKNOWN : !in(x, 0, 20) || !in(y, 0, 21) ? OUTSIDE : paidSo(corner, x, y);
    }

    int leastPay(int corner, int y, int w) {
        if (!isCorner(corner)) {
            return UNKNOWN;
        }
        if (!in(y, 0, 21) || !in(w, 0, 999)) {
            return OUTSIDE;
        }
        for (int x = 0; x <= 20; x++) {
            if (paidSo(corner, x, y) >= w) {
                return x;
            }
        }
        return NONE;
    }

    // ---- slots

    int keep(int slot) {
        if (!in(slot, 0, 1)) {
            return UNKNOWN;
        }
        kept.put(slot, told.copy());
        return told.givenOut();
    }

    int again(int slot) {
        if (!in(slot, 0, 1)) {
            return UNKNOWN;
        }
        if (!kept.containsKey(slot)) {
            return STATE;
        }
        told = kept.get(slot).copy();
        return told.givenOut();
    }

    int count(int what) {
        return what == 0 ? text.length() : what == 1 ? seen.size() : what == 2 ? told.orders.size()
                : what == 3 ? told.givenOut() : OUTSIDE;
    }
}
