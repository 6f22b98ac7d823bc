/** Promises 19 and 20: a van with some kept back, for two corners. */
public final class VanTest {
    private static final Due DUE = new Due();
    // On kind 0 one comes to corner 0 and three come to corner 1 in each half hour; on kind 1 nobody comes.
    private static final String SURE = "N3W0010W1030W0100W1100";

    public static void main(String[] args) {
        bestOfSure();
        bestInTheMean();
        now();
        refusals();
        DUE.end();
    }

    private static void best(UnsoldAtEleven x, int[] of, long above, long below) {
        DUE.fraction("19 best(" + of[0] + ", " + of[1] + ", " + of[2] + ", " + of[3] + ", " + of[4] + ")",
                x.best(of[0], of[1], of[2], of[3], of[4], true), x.best(of[0], of[1], of[2], of[3], of[4], false),
                above, below);
    }

    private static void bestOfSure() {
        UnsoldAtEleven x = Due.townOf(SURE);
        best(x, new int[] {1, 0, 0, 12, 6}, 12, 1);
        best(x, new int[] {1, 0, 0, 12, 1}, 3, 1);
        best(x, new int[] {1, 0, 0, 12, 2}, 7, 1);
        best(x, new int[] {10, 0, 0, 12, 2}, 7, 1);
        best(x, new int[] {1, 0, 0, 0, 6}, 0, 1);
        best(x, new int[] {1, 0, 12, 0, 3}, 9, 1);
        best(x, new int[] {1, 0, 1200, 0, 3}, 3, 1);
        best(x, new int[] {10, 0, 1200, 0, 3}, 9, 1);
        best(x, new int[] {1, 0, 404, 4, 0}, 0, 1);
        best(x, new int[] {1, 1, 404, 4, 6}, 0, 1);
        best(x, new int[] {1, 0, 602, 4, 6}, 12, 1);
        for (int has = 0; has <= 12; has++) {
            best(x, new int[] {1, 0, has, 12 - has, 1}, has < 3 ? 3 : has < 12 ? 4 : 3, 1);
            best(x, new int[] {1, 0, 100 * has, 12 - has, 1}, Math.min(has, 1) + Math.min(12 - has, 3), 1);
            best(x, new int[] {10, 0, 100 * has, 0, 2}, Math.min(has, 6), 1);
        }
        // Whoever finds none is lost: he goes on to nobody here.
        best(Due.townOf(SURE + "G01G10"), new int[] {1, 0, 12, 0, 6}, 12, 1);
        best(Due.townOf(SURE + "G01G10"), new int[] {1, 0, 600, 0, 6}, 6, 1);
    }

    private static void bestInTheMean() {
        UnsoldAtEleven x = Due.townOf("N2");
        best(x, new int[] {1, 0, 101, 0, 1}, 2, 1);
        best(x, new int[] {1, 0, 200, 0, 1}, 3, 2);
        best(x, new int[] {1, 0, 202, 0, 1}, 3, 1);
        best(x, new int[] {1, 0, 0, 2, 1}, 3, 2);
        best(x, new int[] {1, 0, 1200, 0, 6}, 9, 1);
        best(x, new int[] {1, 0, 7, 0, 6}, 447, 64);
        // Six half hours and tenths: the finest fraction that there is.
        best(Due.townOf("N2W0001W1003"), new int[] {1, 0, 100, 0, 6}, 468559, 1000000);
        best(Due.townOf("N2W0001W1003"), new int[] {1, 0, 101, 0, 6}, 135091, 100000);
    }

    private static void now(UnsoldAtEleven x, int[] of, int due) {
        DUE.of("20 now(" + of[0] + ", " + of[1] + ", " + of[2] + ", " + of[3] + ", " + of[4] + ")",
                x.now(of[0], of[1], of[2], of[3], of[4]), due);
    }

    private static void now() {
        UnsoldAtEleven sure = Due.townOf(SURE);
        now(sure, new int[] {1, 0, 0, 12, 6}, 0);
        now(sure, new int[] {1, 0, 0, 12, 1}, 103);
        now(sure, new int[] {10, 0, 0, 12, 1}, 3);
        now(sure, new int[] {1, 0, 0, 12, 2}, 106);
        now(sure, new int[] {1, 0, 3, 9, 1}, 1);
        now(sure, new int[] {1, 1, 0, 12, 6}, 0);
        now(sure, new int[] {1, 0, 1, 0, 6}, 0);
        UnsoldAtEleven like = Due.townOf("N2");
        now(like, new int[] {1, 0, 0, 1, 1}, 1);
        now(like, new int[] {10, 0, 0, 1, 1}, 1);
        now(like, new int[] {1, 0, 0, 2, 1}, 2);
        now(like, new int[] {1, 0, 100, 1, 1}, 101);
        now(like, new int[] {10, 0, 1, 1, 1}, 1);
        now(like, new int[] {1, 0, 202, 8, 1}, 0);
        for (int has = 3; has < 12; has++) {
            now(sure, new int[] {1, 0, has, 12 - has, 1}, 1);
            now(sure, new int[] {10, 0, 100 * has, 12 - has, 1}, 101);
            now(sure, new int[] {1, 0, 100 * has, 12 - has, 1}, 100 + Math.min(3, 12 - has));
        }
        DUE.of("20 nothing is changed", like.van(0, 0, 0), 0);
    }

    private static void refused(UnsoldAtEleven x, int[] of, int due) {
        best(x, of, due, due);
        now(x, of, due);
    }

    private static void refusals() {
        UnsoldAtEleven x = Due.townOf("N2");
        for (int corners : new int[] {-1, 2, 20, 12, 21, 100, 101, -10, 9, Integer.MIN_VALUE, Integer.MAX_VALUE}) {
            refused(x, new int[] {corners, 0, 0, 0, 1}, -1);
        }
        refused(x, new int[] {1, 3, 0, 0, 1}, -1);
        refused(x, new int[] {1, -1, 0, 0, 1}, -1);
        refused(x, new int[] {2, 0, 1300, 13, 7}, -1);
        for (int papers : new int[] {-1, -100, 13, 99, 1300, 1201, 113, 707, Integer.MIN_VALUE, Integer.MAX_VALUE}) {
            refused(x, new int[] {1, 0, papers, 0, 1}, -2);
        }
        for (int van : new int[] {-1, 13, Integer.MIN_VALUE, Integer.MAX_VALUE}) {
            refused(x, new int[] {1, 0, 0, van, 1}, -2);
        }
        refused(x, new int[] {1, 0, 606, 1, 1}, -2);
        refused(x, new int[] {1, 0, 100, 12, 1}, -2);
        refused(x, new int[] {1, 0, 0, 0, -1}, -2);
        refused(x, new int[] {1, 0, 0, 0, 7}, -2);
        refused(x, new int[] {0, 0, 0, 0, 7}, -2);
        refused(x, new int[] {0, 0, 0, 0, 1}, -3);
        refused(x, new int[] {11, 2, 606, 0, 6}, -3);
        best(x, new int[] {1, 0, 0, 0, 0}, 0, 1);
        now(x, new int[] {1, 0, 0, 0, 0}, -2);
        now(x, new int[] {0, 0, 0, 0, 0}, -2);
        now(new UnsoldAtEleven(), new int[] {1, 0, 0, 0, 1}, -1);
    }
}
