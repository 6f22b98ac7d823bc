/** The boundary cases of promises 19 and 20, sentence by sentence. */
public final class VanEdgesTest {
    private static final Due DUE = new Due();
    private static final Edges EDGES = new Edges(DUE);
    // On kind 0 nobody comes to corner 0, one comes to corner 1 and three come to corner 2, in each half hour.
    private static final String SURE = "N3W0000W1010W2030";

    public static void main(String[] args) {
        cornersAreTwoFigures();
        kinds();
        papersAreTwoNumbers();
        vanHolds();
        twelveInAll();
        halfHoursLeft();
        bothCornersAreOne();
        refusalsInTheirOrder();
        bestOfLeastAndMost();
        bestOfNoHalfHour();
        bestInLeastTerms();
        bestOfCornersEitherWay();
        bestWithWhatIsTold();
        nowIsNone();
        nowIsTheFewest();
        nowToTheFirstOfLikeOnes();
        nowOfTheLastHalfHour();
        nowToOneCornerAtOnce();
        nowOfTwelve();
        DUE.end();
    }

    private static UnsoldAtEleven three() {
        return Due.townOf("N3");
    }

    private interface Plan {
        long on(UnsoldAtEleven x, int corners, int kind, int papers, int van, int t);
    }

    /** Both calls, above and below: they refuse alike. */
    private static Plan[] plans() {
        return new Plan[] {(x, c, k, p, v, t) -> x.best(c, k, p, v, t, true), (x, c, k, p, v, t) -> x.best(c, k, p, v, t, false),
            (x, c, k, p, v, t) -> x.now(c, k, p, v, t)};
    }

    private static void cornersAreTwoFigures() {
        for (int n = 1; n <= 3; n++) {
            UnsoldAtEleven x = Due.townOf("N" + n);
            for (int corners = -35; corners <= 133; corners++) {
                boolean known = corners >= 0 && corners / 10 < n && corners % 10 < n;
                long want = !known ? -1 : corners / 10 == corners % 10 ? -3 : 0;
                DUE.of("19 N" + n + " corners " + corners, x.best(corners, 0, 0, 0, 1, true), want);
                DUE.of("20 N" + n + " corners " + corners, x.now(corners, 0, 0, 0, 1), want);
            }
        }
        for (Plan plan : plans()) {
            for (int corners : new int[] {Integer.MIN_VALUE, -1, -10, 3, 30, 13, 23, 99, 100, 110, 256, Integer.MAX_VALUE}) {
                EDGES.refused("19 corners " + corners, Edges::full, x -> plan.on(x, corners, 0, 0, 0, 1), -1);
            }
        }
    }

    private static void kinds() {
        for (Plan plan : plans()) {
            EDGES.range("19 kind", Edges::full, 0, 2, -1, (x, kind) -> plan.on(x, 12, kind, 202, 2, 2));
        }
    }

    private static void papersAreTwoNumbers() {
        for (Plan plan : plans()) {
            for (int papers = -110; papers <= 1320; papers++) {
                int one = papers / 100;
                int other = papers % 100;
                boolean some = papers >= 0 && one <= 12 && other <= 12 && one + other <= 12;
                long got = plan.on(three(), 1, 0, papers, 0, 1);
                DUE.of("19 papers " + papers + " (" + got + ")", got >= 0 ? 0 : got, some ? 0 : -2);
            }
            for (int papers : new int[] {Integer.MIN_VALUE, -1, -100, 13, 99, 1201, 1300, 10000, 120000, Integer.MAX_VALUE}) {
                EDGES.refused("19 papers " + papers, Edges::full, x -> plan.on(x, 1, 0, papers, 0, 1), -2);
            }
        }
    }

    private static void vanHolds() {
        for (Plan plan : plans()) {
            EDGES.range("19 van", Edges::full, 0, 12, -2, (x, van) -> plan.on(x, 10, 1, 0, van, 2));
        }
    }

    private static void twelveInAll() {
        int[][] all = {{0, 0, 12}, {0, 12, 0}, {12, 0, 0}, {4, 4, 4}, {1, 1, 10}, {6, 6, 0}, {11, 0, 1}, {0, 11, 1}, {6, 0, 6}};
        for (Plan plan : plans()) {
            for (int[] of : all) {
                int papers = 100 * of[0] + of[1];
                long got = plan.on(three(), 1, 0, papers, of[2], 1);
                DUE.of("19 twelve by " + papers + " and " + of[2], got >= 0 ? 0 : got, 0);
                EDGES.refused("19 thirteen by " + papers + ", van", Edges::full, x -> plan.on(x, 1, 0, papers, of[2] + 1, 1), -2);
                EDGES.refused("19 thirteen by " + papers + ", one", Edges::full,
                        x -> plan.on(x, 1, 0, papers + 100, of[2], 1), -2);
                EDGES.refused("19 thirteen by " + papers + ", other", Edges::full,
                        x -> plan.on(x, 1, 0, papers + 1, of[2], 1), -2);
            }
            // So many in all that they come round to few.
            EDGES.refused("19 far", Edges::full, x -> plan.on(x, 1, 0, 1, Integer.MAX_VALUE, 1), -2);
            EDGES.refused("19 far", Edges::full, x -> plan.on(x, 1, 0, 1212, Integer.MIN_VALUE, 1), -2);
            EDGES.refused("19 less than none", Edges::full, x -> plan.on(x, 1, 0, 1200, -1, 1), -2);
        }
    }

    private static void halfHoursLeft() {
        for (boolean upper : new boolean[] {true, false}) {
            EDGES.range("19 t", Edges::full, 0, 6, -2, (x, t) -> x.best(21, 2, 303, 3, t, upper));
        }
        EDGES.range("20 t", Edges::full, 1, 6, -2, (x, t) -> x.now(21, 2, 303, 3, t));
        EDGES.refused("20 no half hour", VanEdgesTest::three, x -> x.now(1, 0, 0, 12, 0), -2);
    }

    private static void bothCornersAreOne() {
        for (int corners : new int[] {0, 11, 22}) {
            for (Plan plan : plans()) {
                EDGES.refused("19 both are one", Edges::full, x -> plan.on(x, corners, 2, 606, 0, 6), -3);
            }
            EDGES.refused("19 both are one, no half hour", Edges::full, x -> x.best(corners, 2, 606, 0, 0, true), -3);
            EDGES.refused("20 both are one, no half hour", Edges::full, x -> x.now(corners, 2, 606, 0, 0), -2);
        }
        DUE.of("19 at first there is one corner", new UnsoldAtEleven().best(0, 0, 0, 0, 0, true), -3);
        DUE.of("20 at first there is one corner", new UnsoldAtEleven().now(0, 0, 0, 0, 1), -3);
    }

    private static void refusalsInTheirOrder() {
        int[][] bad = {{3, 30, -1}, {3, -1}, {1300, 13}, {13}, {7, -1}};
        int[] codes = {-1, -1, -2, -2, -2};
        for (Plan plan : plans()) {
            EDGES.first("19 plan", Edges::full, new int[] {12, 2, 404, 4, 6}, bad, codes, 0,
                    (x, of) -> plan.on(x, of[0], of[1], of[2], of[3], of[4]));
            EDGES.first("19 plan", Edges::full, new int[] {11, 2, 404, 4, 6}, bad, codes, -3,
                    (x, of) -> plan.on(x, of[0], of[1], of[2], of[3], of[4]));
        }
    }

    private static void best(UnsoldAtEleven x, int corners, int papers, int van, int t, long above, long below) {
        DUE.fraction("19 best(" + corners + ", 0, " + papers + ", " + van + ", " + t + ")",
                x.best(corners, 0, papers, van, t, true), x.best(corners, 0, papers, van, t, false), above, below);
    }

    private static void bestOfLeastAndMost() {
        UnsoldAtEleven x = Due.townOf(SURE);
        best(x, 12, 0, 0, 6, 0, 1);
        best(x, 12, 0, 12, 6, 12, 1);
        best(x, 12, 1200, 0, 6, 6, 1);
        best(x, 12, 12, 0, 6, 12, 1);
        best(x, 12, 12, 0, 4, 12, 1);
        best(x, 12, 12, 0, 3, 9, 1);
        best(x, 1, 1200, 0, 6, 0, 1);
        best(x, 1, 0, 12, 6, 6, 1);
        best(x, 12, 0, 1, 1, 1, 1);
        best(x, 12, 100, 0, 1, 1, 1);
        best(x, 12, 1, 0, 1, 1, 1);
        // b 3 and x 9 at both, the most that can come: 3.9 each.
        best(Due.townOf("N2W0039W1039"), 1, 606, 0, 1, 39, 5);
        best(Due.townOf("N2W0039W1039"), 1, 606, 0, 6, 12, 1);
    }

    private static void bestOfNoHalfHour() {
        UnsoldAtEleven x = Due.townOf(SURE);
        for (int papers : new int[] {0, 12, 1200, 404}) {
            best(x, 12, papers, 0, 0, 0, 1);
        }
        best(x, 12, 0, 12, 0, 0, 1);
        best(x, 12, 404, 4, 0, 0, 1);
        best(x, 12, 404, 4, 1, 4, 1);
        best(x, 12, 404, 4, 0, 0, 1);
    }

    private static void bestInLeastTerms() {
        UnsoldAtEleven x = Due.townOf("N2W0002W1005");
        best(x, 1, 101, 0, 1, 7, 10);
        best(x, 1, 100, 0, 1, 1, 5);
        best(x, 1, 1, 0, 1, 1, 2);
        best(x, 1, 1, 0, 6, 63, 64);
        // 0.8 to the sixth: 262144 of a million, 4096 of 15625.
        best(x, 1, 100, 0, 6, 11529, 15625);
    }

    private static void bestOfCornersEitherWay() {
        UnsoldAtEleven x = Due.townOf(SURE);
        best(x, 12, 300, 0, 1, 1, 1);
        best(x, 21, 300, 0, 1, 3, 1);
        best(x, 12, 3, 0, 1, 3, 1);
        best(x, 21, 3, 0, 1, 1, 1);
        best(x, 20, 1200, 0, 1, 3, 1);
        best(x, 2, 1200, 0, 1, 0, 1);
        best(x, 2, 12, 0, 1, 3, 1);
    }

    /** Nobody goes on; and what is told of the morning, shares and what is seen is nothing to it. */
    private static void bestWithWhatIsTold() {
        UnsoldAtEleven x = Due.townOf(SURE + "G12G21");
        best(x, 12, 600, 0, 2, 2, 1);
        UnsoldAtEleven told = Due.townOf(SURE + "K09");
        told.day(2);
        told.gives(1, 60);
        told.more(1, 63);
        told.van(60, 1, 20);
        told.order(0, 1, 20);
        told.see(1, 9);
        told.days(4);
        best(told, 12, 600, 0, 2, 2, 1);
        DUE.of("20 nor to this", told.now(12, 0, 0, 12, 1), 103);
    }

    private static void now(UnsoldAtEleven x, int corners, int papers, int van, int t, int due) {
        DUE.of("20 now(" + corners + ", 0, " + papers + ", " + van + ", " + t + ")", x.now(corners, 0, papers, van, t), due);
    }

    private static void nowIsNone() {
        UnsoldAtEleven x = Due.townOf(SURE);
        now(x, 12, 0, 0, 1, 0);
        now(x, 12, 606, 0, 6, 0);
        // Both have what they can sell now, and more can be given later.
        now(x, 12, 103, 8, 6, 0);
        now(x, 12, 103, 8, 1, 0);
        // None is given where none is sold.
        now(x, 1, 6, 6, 6, 0);
        now(Due.townOf("N2W0000W1000"), 1, 0, 12, 6, 0);
    }

    private static void nowIsTheFewest() {
        UnsoldAtEleven x = Due.townOf(SURE);
        now(x, 1, 0, 12, 6, 101);
        now(x, 10, 0, 12, 6, 1);
        now(x, 1, 0, 12, 1, 101);
        now(x, 12, 2, 10, 1, 1);
        // One more now for the half hour behind it, in which the other one is given three.
        now(x, 12, 103, 8, 2, 1);
        now(x, 12, 102, 9, 1, 101);
        now(x, 12, 101, 9, 1, 102);
        now(x, 12, 100, 9, 1, 103);
    }

    private static void nowToTheFirstOfLikeOnes() {
        UnsoldAtEleven x = Due.townOf("N3");
        for (int corners : new int[] {1, 10, 2, 20, 12, 21}) {
            now(x, corners, 0, 1, 1, 1);
            now(x, corners, 0, 1, 6, 0);
            now(x, corners, 100, 1, 1, 101);
            now(x, corners, 1, 1, 1, 1);
        }
        // Two to the first or two to the other: the first.
        now(x, 1, 0, 12, 1, 2);
        now(x, 1, 1, 11, 1, 2);
        now(x, 1, 100, 11, 1, 102);
        now(Due.townOf("N2W0010W1039"), 1, 103, 1, 1, 101);
        now(Due.townOf("N2W0015W1010"), 1, 0, 1, 1, 1);
        now(Due.townOf("N2W0015W1010"), 10, 0, 1, 1, 1);
        now(Due.townOf("N2W0015W1010"), 10, 0, 2, 1, 102);
    }

    private static void nowOfTheLastHalfHour() {
        UnsoldAtEleven x = Due.townOf("N2W0039W1035");
        now(x, 1, 0, 12, 1, 4);
        now(x, 10, 0, 12, 1, 104);
        now(x, 1, 300, 9, 1, 104);
        now(x, 1, 400, 8, 1, 104);
        now(x, 1, 404, 4, 1, 0);
        now(x, 1, 304, 5, 1, 1);
        now(x, 1, 403, 5, 1, 101);
    }

    private static void nowToOneCornerAtOnce() {
        // Two half hours, three each to both: six to one of them now, three to the other behind it.
        UnsoldAtEleven x = Due.townOf("N2W0030W1030");
        now(x, 1, 0, 12, 2, 6);
        best(x, 1, 0, 12, 2, 9, 1);
        now(x, 1, 0, 12, 3, 3);
        best(x, 1, 0, 12, 3, 12, 1);
        now(x, 1, 300, 9, 2, 106);
        best(x, 1, 300, 9, 2, 12, 1);
    }

    private static void nowOfTwelve() {
        UnsoldAtEleven x = Due.townOf("N2W0030W1000");
        now(x, 1, 0, 12, 4, 3);
        now(x, 1, 0, 12, 6, 0);
        now(x, 1, 0, 12, 5, 0);
        now(x, 10, 0, 12, 4, 103);
        now(x, 10, 0, 12, 1, 103);
    }
}
