/** Promises 8 to 13: corners apart. */
public final class ApartTest {
    private static final Due DUE = new Due();
    // Corner 0 wants 12 and corner 1 wants 18 on every day.
    private static final String SURE = "N2W0020W0120W0220W1030W1130W1230";

    public static void main(String[] args) {
        sold();
        out();
        given();
        earned();
        print();
        printAnew();
        loss();
        nothingIsChanged();
        DUE.end();
    }

    private static void sold(UnsoldAtEleven x, int corner, int g, long above, long below) {
        DUE.fraction("8 sold(" + corner + ", " + g + ")", x.sold(corner, g, true), x.sold(corner, g, false), above, below);
    }

    private static void sold() {
        UnsoldAtEleven x = new UnsoldAtEleven();
        sold(x, 0, 0, 0, 1);
        sold(x, 0, 6, 6, 1);
        sold(x, 0, 7, 447, 64);
        sold(x, 0, 9, 273, 32);
        sold(x, 0, 12, 9, 1);
        sold(x, 0, 60, 9, 1);
        UnsoldAtEleven shares = Due.townOf("N1K03W0000W0110W0220");
        sold(shares, 0, 6, 12, 5);
        sold(shares, 0, 10, 16, 5);
        sold(shares, 0, 12, 18, 5);
        // 1 - 0.9 to the sixth of half the days, and always on the other ones
        UnsoldAtEleven tenths = Due.townOf("N1K02W0001W0110W0210");
        sold(tenths, 0, 1, 1468559, 2000000);
        refusedLikewise();
    }

    private static void refusedLikewise() {
        UnsoldAtEleven x = Due.townOf("N2");
        int[][] refused = {{2, 0, -1}, {-1, 0, -1}, {0, -1, -2}, {0, 61, -2}, {2, 61, -1}, {Integer.MIN_VALUE, 0, -1},
            {1, Integer.MAX_VALUE, -2}};
        for (int[] r : refused) {
            DUE.fraction("8 refused", x.sold(r[0], r[1], true), x.sold(r[0], r[1], false), r[2], r[2]);
            DUE.fraction("9 refused", x.out(r[0], r[1], true), x.out(r[0], r[1], false), r[2], r[2]);
            DUE.of("10 refused", x.given(r[1], r[0]), r[2]);
            DUE.fraction("13 refused", x.loss(r[1], r[0], 0, true), x.loss(r[1], r[0], 0, false), r[2], r[2]);
        }
    }

    private static void out(UnsoldAtEleven x, int corner, int g, long above, long below) {
        DUE.fraction("9 out(" + corner + ", " + g + ")", x.out(corner, g, true), x.out(corner, g, false), above, below);
    }

    private static void out() {
        UnsoldAtEleven x = new UnsoldAtEleven();
        out(x, 0, 0, 1, 1);
        out(x, 0, 5, 1, 1);
        out(x, 0, 6, 63, 64);
        out(x, 0, 9, 11, 32);
        out(x, 0, 11, 1, 64);
        out(x, 0, 12, 0, 1);
        out(x, 0, 60, 0, 1);
        UnsoldAtEleven shares = Due.townOf("N2K03W1000W1110W1220");
        out(shares, 1, 0, 2, 5);
        out(shares, 1, 5, 2, 5);
        out(shares, 1, 6, 1, 5);
        out(shares, 1, 12, 0, 1);
        out(shares, 0, 9, 11, 32);
    }

    private static void given(UnsoldAtEleven x, int p, int... due) {
        for (int corner = 0; corner < due.length; corner++) {
            DUE.of("10 given(" + p + ", " + corner + ")", x.given(p, corner), due[corner]);
        }
    }

    private static void given() {
        UnsoldAtEleven sure = Due.townOf(SURE);
        given(sure, 0, 0, 0);
        given(sure, 5, 5, 0);
        given(sure, 12, 12, 0);
        given(sure, 13, 12, 1);
        given(sure, 30, 12, 18);
        given(sure, 60, 42, 18);
        // Chances of the two go down in turn: 6 each without a doubt, then whoever is out more.
        UnsoldAtEleven two = Due.townOf("N2");
        given(two, 12, 6, 6);
        given(two, 13, 7, 6);
        given(two, 14, 7, 7);
        given(two, 25, 13, 12);
        UnsoldAtEleven three = Due.townOf("N3W0000W0100W0200W2039W2139W2239");
        given(three, 24, 0, 6, 18);
        given(three, 25, 0, 6, 19);
        given(three, 60, 24, 12, 24);
        given(new UnsoldAtEleven(), 60, 60);
    }

    private static void earned(UnsoldAtEleven x, int p, long above, long below) {
        DUE.fraction("11 earned(" + p + ")", x.earned(p, true), x.earned(p, false), above, below);
    }

    private static void earned() {
        UnsoldAtEleven x = new UnsoldAtEleven();
        earned(x, 0, 1000000, 1);
        earned(x, 7, 1004465, 64);
        earned(x, 20, 1000035, 1);
        earned(x, 60, 999835, 1);
        UnsoldAtEleven sure = Due.townOf(SURE + "C11P30R02");
        earned(sure, 30, 1000570, 1);
        earned(sure, 31, 1000561, 1);
        // Far below: -60 papers at 99 each but a few for nothing.
        UnsoldAtEleven dear = Due.townOf("N1K05K17K29W0013W0117C99P00R00");
        earned(dear, 60, 1000000 - 5940, 1);
        UnsoldAtEleven thirds = Due.townOf("N1W0000W0100W0210C99P01R00");
        earned(thirds, 1, 1000000 - 296, 3);
        UnsoldAtEleven millionths = Due.townOf("N1W0001W0101W0201C99P01R00");
        // Below 0 even with the million: (1 - 0.9 to the sixth) less 99.
        earned(millionths, 1, 1000000 + 468559 - 99000000, 1000000);
        DUE.fraction("11 refused", x.earned(61, true), x.earned(61, false), -2, -2);
        DUE.fraction("11 refused", x.earned(-1, true), x.earned(-1, false), -2, -2);
        DUE.of("11 refused", x.earned(Integer.MAX_VALUE, true), -2);
    }

    private static void print() {
        DUE.of("12 at first", new UnsoldAtEleven().print(), 10);
        DUE.of("12 sure", Due.townOf(SURE).print(), 30);
        DUE.of("12 of like ones the least", Due.townOf(SURE + "C20P20R05").print(), 0);
        DUE.of("12 as far as it is like", Due.townOf(SURE + "C05P20R05").print(), 30);
        DUE.of("12 too dear", Due.townOf(SURE + "C21P20R05").print(), 0);
        DUE.of("12 all that can be", Due.townOf(SURE + "C04P20R05").print(), 60);
        DUE.of("12 left ones bring more", Due.townOf("N2P05R20").print(), 60);
        DUE.of("12 nobody comes", Due.townOf("N1W0000W0100W0200").print(), 0);
    }

    private static void printAnew() {
        UnsoldAtEleven x = Due.townOf(SURE);
        x.given(60, 0);
        DUE.of("12 what was given before is nothing to it", x.print(), 30);
        DUE.of("12 nor what it gave itself", x.print(), 30);
        x.loss(60, 1, 60, true);
        DUE.of("12 nor a nephew's", x.print(), 30);
    }

    private static void loss(UnsoldAtEleven x, int p, int corner, int n, long above, long below) {
        DUE.fraction("13 loss(" + p + ", " + corner + ", " + n + ")",
                x.loss(p, corner, n, true), x.loss(p, corner, n, false), above, below);
    }

    private static void loss() {
        UnsoldAtEleven sure = Due.townOf(SURE);
        loss(sure, 30, 0, 20, 120, 1);
        loss(sure, 30, 1, 18, 0, 1);
        loss(sure, 30, 1, 0, 270, 1);
        loss(sure, 30, 0, 30, 270, 1);
        loss(sure, 0, 0, 0, 0, 1);
        UnsoldAtEleven one = new UnsoldAtEleven();
        loss(one, 7, 0, 6, 945, 64);
        loss(one, 7, 0, 7, 0, 1);
        loss(one, 20, 0, 0, 135, 1);
        loss(Due.townOf(SURE + "P05R20"), 30, 0, 30, -270, 1);
        UnsoldAtEleven three = Due.townOf("N3W0010W0110W0210W1010W1110W1210W2010W2110W2210");
        loss(three, 18, 1, 12, 90, 1);
        loss(three, 13, 2, 1, 0, 1);
        int[][] refused = {{5, 0, 6}, {5, 0, -1}, {61, 0, 0}, {-1, 0, 0}, {-1, 0, -1}, {60, 0, 61}};
        for (int[] r : refused) {
            DUE.fraction("13 refused", one.loss(r[0], r[1], r[2], true), one.loss(r[0], r[1], r[2], false), -2, -2);
        }
        DUE.of("13 UNKNOWN first", one.loss(61, 1, 99, true), -1);
    }

    private static void nothingIsChanged() {
        UnsoldAtEleven x = Due.townOf(SURE);
        x.loss(30, 0, 20, true);
        x.print();
        given(x, 13, 12, 1);
        x.given(60, 0);
        earned(x, 30, 1000300, 1);
        DUE.of("10 nothing is given out by it", x.count(3), 0);
    }
}
