/** The boundary cases of promises 8 to 13, sentence by sentence. */
public final class ApartEdgesTest {
    private static final Due DUE = new Due();
    private static final Edges EDGES = new Edges(DUE);
    // On every day three come to each of three corners in each half hour: 18 to each, 54 in all.
    private static final String THREES = "N3W0030W0130W0230W1030W1130W1230W2030W2130W2230";
    // The least and the most that can come to a corner: none, and 18 to 24.
    private static final String NONE_AND_ALL = "N2W0000W0100W0200W1039W1139W1239";

    public static void main(String[] args) {
        soldRefuses();
        soldOfNoneAndOfSixty();
        soldIsTheLesser();
        soldWhereNobodyComes();
        outRefuses();
        outMeansMore();
        outIsSureOrNever();
        inLeastTerms();
        withTheGreatestShares();
        nobodyGoesOn();
        givenRefuses();
        givenOfNoneAndOfSixty();
        givenOfLikeOnesToTheLeast();
        givenWhenNoneIsOut();
        earnedRefuses();
        earnedOfNoneAndOfSixty();
        earnedIsLessThanNothing();
        earnedIsInLeastTermsWithoutTheMillion();
        printOfLikeOnesTheLeast();
        printOfLeastAndMost();
        lossRefuses();
        lossOfNoneAndOfAll();
        lossWithoutAnotherCorner();
        lossOfLikeOnesToTheLeast();
        lossIsLessThanNothing();
        DUE.end();
    }

    private static void sold(UnsoldAtEleven x, int corner, int g, long above, long below) {
        DUE.fraction("8 sold(" + corner + ", " + g + ")", x.sold(corner, g, true), x.sold(corner, g, false), above, below);
    }

    private static void out(UnsoldAtEleven x, int corner, int g, long above, long below) {
        DUE.fraction("9 out(" + corner + ", " + g + ")", x.out(corner, g, true), x.out(corner, g, false), above, below);
    }

    private static void soldRefuses() {
        for (boolean upper : new boolean[] {true, false}) {
            EDGES.corners("8 sold", -1, (x, corner) -> x.sold(corner, 1, upper));
            EDGES.range("8 sold", Edges::full, 0, 60, -2, (x, g) -> x.sold(2, g, upper));
            EDGES.first("8 sold", Edges::full, new int[] {2, 60}, new int[][] {{3, -1}, {61, -1}}, new int[] {-1, -2}, 0,
                    (x, of) -> x.sold(of[0], of[1], upper));
        }
    }

    private static void soldOfNoneAndOfSixty() {
        UnsoldAtEleven x = Due.townOf(NONE_AND_ALL);
        sold(x, 1, 0, 0, 1);
        sold(x, 1, 60, 117, 5);
        UnsoldAtEleven y = new UnsoldAtEleven();
        sold(y, 0, 0, 0, 1);
        sold(y, 0, 1, 1, 1);
        sold(y, 0, 60, 9, 1);
    }

    private static void soldIsTheLesser() {
        UnsoldAtEleven x = Due.townOf(NONE_AND_ALL);
        sold(x, 1, 17, 17, 1);
        sold(x, 1, 18, 18, 1);
        // One of the nineteen is left if no one more comes in all six: a millionth.
        sold(x, 1, 19, 18999999, 1000000);
        // Of 23 one more is wanted by 0.9 to the sixth; 24 are never too few.
        sold(x, 1, 23, 23400000 - 531441, 1000000);
        sold(x, 1, 24, 117, 5);
        sold(x, 1, 25, 117, 5);
        UnsoldAtEleven threes = Due.townOf(THREES);
        sold(threes, 2, 17, 17, 1);
        sold(threes, 2, 18, 18, 1);
        sold(threes, 2, 19, 18, 1);
        sold(threes, 2, 60, 18, 1);
    }

    private static void soldWhereNobodyComes() {
        UnsoldAtEleven x = Due.townOf(NONE_AND_ALL);
        sold(x, 0, 0, 0, 1);
        sold(x, 0, 1, 0, 1);
        sold(x, 0, 60, 0, 1);
        out(x, 0, 0, 0, 1);
        out(x, 0, 60, 0, 1);
    }

    private static void outRefuses() {
        for (boolean upper : new boolean[] {true, false}) {
            EDGES.corners("9 out", -1, (x, corner) -> x.out(corner, 1, upper));
            EDGES.range("9 out", Edges::full, 0, 60, -2, (x, g) -> x.out(2, g, upper));
            EDGES.first("9 out", Edges::full, new int[] {2, 60}, new int[][] {{3, -1}, {61, -1}}, new int[] {-1, -2}, 0,
                    (x, of) -> x.out(of[0], of[1], upper));
        }
    }

    private static void outMeansMore() {
        UnsoldAtEleven threes = Due.townOf(THREES);
        out(threes, 0, 17, 1, 1);
        out(threes, 0, 18, 0, 1);
        out(threes, 0, 19, 0, 1);
        UnsoldAtEleven x = new UnsoldAtEleven();
        out(x, 0, 5, 1, 1);
        out(x, 0, 6, 63, 64);
        out(x, 0, 11, 1, 64);
        out(x, 0, 12, 0, 1);
    }

    private static void outIsSureOrNever() {
        UnsoldAtEleven x = Due.townOf(NONE_AND_ALL);
        out(x, 1, 0, 1, 1);
        out(x, 1, 17, 1, 1);
        out(x, 1, 18, 999999, 1000000);
        out(x, 1, 23, 531441, 1000000);
        out(x, 1, 24, 0, 1);
        out(x, 1, 60, 0, 1);
    }

    private static void inLeastTerms() {
        // 8 of 26 days by 468559 of a million: 13 goes into both.
        UnsoldAtEleven x = Due.townOf("N1K09K19K28W0000W0100W0201");
        out(x, 0, 0, 36043, 250000);
        sold(x, 0, 1, 36043, 250000);
        UnsoldAtEleven whole = Due.townOf("N1K03W0010W0100W0200");
        out(whole, 0, 5, 3, 5);
        sold(whole, 0, 5, 3, 1);
        sold(whole, 0, 4, 12, 5);
    }

    private static void withTheGreatestShares() {
        UnsoldAtEleven x = Due.townOf("N1K09K19K29W0001W0103W0207");
        // A third of each: 1 less 0.9, 0.7 and 0.3 to the sixth, 3000000 less 531441, 117649 and 729 millionths.
        out(x, 0, 0, 2350181, 3000000);
        UnsoldAtEleven one = Due.townOf("N1K01K19K29W0010W0100W0200");
        out(one, 0, 0, 1, 19);
        UnsoldAtEleven nine = Due.townOf("N1K09W0010W0100W0200");
        out(nine, 0, 0, 9, 11);
    }

    private static void nobodyGoesOn() {
        UnsoldAtEleven x = Due.townOf(NONE_AND_ALL + "G10G01");
        sold(x, 0, 60, 0, 1);
        out(x, 0, 0, 0, 1);
        DUE.of("10 none is given for who would go on", x.given(24, 0), 0);
    }

    private static void givenRefuses() {
        EDGES.corners("10 given", -1, (x, corner) -> x.given(9, corner));
        EDGES.range("10 given", Edges::full, 0, 60, -2, (x, p) -> x.given(p, 2));
        EDGES.first("10 given", Edges::full, new int[] {60, 2}, new int[][] {{61, -1}, {3, -1}}, new int[] {-2, -1}, 0,
                (x, of) -> x.given(of[0], of[1]));
    }

    private static void given(UnsoldAtEleven x, int p, int... due) {
        for (int corner = 0; corner < due.length; corner++) {
            DUE.of("10 given(" + p + ", " + corner + ")", x.given(p, corner), due[corner]);
        }
    }

    private static void givenOfNoneAndOfSixty() {
        UnsoldAtEleven x = Due.townOf(THREES);
        given(x, 0, 0, 0, 0);
        given(x, 54, 18, 18, 18);
        given(x, 60, 24, 18, 18);
        given(new UnsoldAtEleven(), 0, 0);
        given(new UnsoldAtEleven(), 60, 60);
    }

    private static void givenOfLikeOnesToTheLeast() {
        UnsoldAtEleven sure = Due.townOf(THREES);
        // All are out for sure till they have 18: corner 0 first, then 1, then 2.
        given(sure, 1, 1, 0, 0);
        given(sure, 18, 18, 0, 0);
        given(sure, 19, 18, 1, 0);
        given(sure, 36, 18, 18, 0);
        given(sure, 37, 18, 18, 1);
        UnsoldAtEleven like = Due.townOf("N3");
        given(like, 18, 6, 6, 6);
        given(like, 19, 7, 6, 6);
        given(like, 20, 7, 7, 6);
        given(like, 21, 7, 7, 7);
        given(like, 22, 8, 7, 7);
        UnsoldAtEleven last = Due.townOf("N3W0000W0100W0200W1000W1100W1200W2010W2110W2210");
        given(last, 6, 0, 0, 6);
        given(last, 7, 1, 0, 6);
    }

    private static void givenWhenNoneIsOut() {
        UnsoldAtEleven x = Due.townOf(NONE_AND_ALL);
        given(x, 24, 0, 24);
        given(x, 25, 1, 24);
        given(x, 60, 36, 24);
        UnsoldAtEleven nobody = Due.townOf("N2W0000W0100W0200W1000W1100W1200");
        given(nobody, 1, 1, 0);
        given(nobody, 60, 60, 0);
    }

    private static void earnedRefuses() {
        for (boolean upper : new boolean[] {true, false}) {
            EDGES.range("11 earned", Edges::full, 0, 60, -2, (x, p) -> outsideOnly(x.earned(p, upper)));
            EDGES.range("11 earned", UnsoldAtEleven::new, 0, 60, -2, (x, p) -> outsideOnly(x.earned(p, upper)));
        }
    }

    /** What is told above may be less than 0 without being a refusal. */
    private static long outsideOnly(long answer) {
        return answer == UnsoldAtEleven.OUTSIDE ? answer : 0;
    }

    private static void earned(UnsoldAtEleven x, int p, long above, long below) {
        DUE.fraction("11 earned(" + p + ")", x.earned(p, true), x.earned(p, false), above, below);
    }

    private static void earnedOfNoneAndOfSixty() {
        earned(new UnsoldAtEleven(), 0, 1000000, 1);
        earned(Due.townOf("N3C99P99R99"), 0, 1000000, 1);
        UnsoldAtEleven x = Due.townOf(THREES + "C00P99R98");
        earned(x, 54, 1000000 + 54 * 99, 1);
        earned(x, 55, 1000000 + 54 * 99 + 98, 1);
        earned(x, 60, 1000000 + 54 * 99 + 6 * 98, 1);
        UnsoldAtEleven like = Due.townOf("N3C99P99R99");
        earned(like, 60, 1000000, 1);
    }

    private static void earnedIsLessThanNothing() {
        UnsoldAtEleven x = Due.townOf(THREES + "C99P00R00");
        earned(x, 1, 1000000 - 99, 1);
        earned(x, 60, 1000000 - 5940, 1);
        UnsoldAtEleven like = Due.townOf(THREES + "C20");
        earned(like, 54, 1000000, 1);
        earned(like, 55, 1000000 - 15, 1);
    }

    private static void earnedIsInLeastTermsWithoutTheMillion() {
        // 10 by 9/11, less 10.
        UnsoldAtEleven x = Due.townOf("N1K09W0010W0100W0200C10P10R00");
        earned(x, 1, 1000000 - 20, 11);
        // 21 by 9/11 and 10 by 2/11, less 10.
        earned(Due.townOf("N1K09W0010W0100W0200C10P21R10"), 1, 1000009, 1);
        // So far below 0 that it is so with the million, too: 468559 millionths less 99.
        UnsoldAtEleven far = Due.townOf("N1W0001W0101W0201C99P01R00");
        earned(far, 1, 1000000 - 98531441, 1000000);
        // One half, and 1000000 to what is above; not 1000000 and one half.
        UnsoldAtEleven half = Due.townOf("N1K02W0010W0100W0200C00P01R00");
        earned(half, 1, 1000001, 2);
        earned(half, 2, 1000001, 1);
        earned(half, 6, 1000003, 1);
    }

    private static void printOfLikeOnesTheLeast() {
        DUE.of("12 all are like", Due.townOf("N3C07P07R07").print(), 0);
        DUE.of("12 like from 54 on", Due.townOf(THREES + "C05").print(), 54);
        DUE.of("12 like up to 54", Due.townOf(THREES + "C20R05").print(), 0);
        // The seventh of a new town brings 0.5: one more is like none more.
        UnsoldAtEleven half = Due.townOf("N1K02W0010W0100W0200C10P20R00");
        DUE.of("12 like up to six", half.print(), 0);
        DUE.of("12 asked again", half.print(), 0);
    }

    private static void printOfLeastAndMost() {
        DUE.of("12 the least", Due.townOf(THREES + "C21").print(), 0);
        DUE.of("12 the most", Due.townOf(THREES + "C04").print(), 60);
        DUE.of("12 all that are sure", Due.townOf(THREES).print(), 54);
        DUE.of("12 nobody comes", Due.townOf("N1W0000W0100W0200").print(), 0);
        DUE.of("12 those left bring most", Due.townOf("N1W0000W0100W0200R11").print(), 60);
        EDGES.taken("12 it is asked when all is told", Edges::full, x -> x.print() == x.print() ? 1 : 0, 1);
    }

    private static void lossRefuses() {
        for (boolean upper : new boolean[] {true, false}) {
            EDGES.corners("13 loss", -1, (x, corner) -> x.loss(9, corner, 9, upper));
            EDGES.range("13 loss, p", Edges::full, 7, 60, -2, (x, p) -> outsideOnly(x.loss(p, 0, 7, upper)));
            EDGES.range("13 loss, p", Edges::full, 0, 60, -2, (x, p) -> outsideOnly(x.loss(p, 0, 0, upper)));
            for (int p : new int[] {0, 1, 30, 59, 60}) {
                EDGES.range("13 loss of " + p, Edges::full, 0, p, -2, (x, n) -> outsideOnly(x.loss(p, 2, n, upper)));
            }
            EDGES.first("13 loss", Edges::full, new int[] {60, 2, 60}, new int[][] {{61, -1}, {3, -1}, {61, -1}},
                    new int[] {-2, -1, -2}, 0, (x, of) -> x.loss(of[0], of[1], of[2], upper));
        }
    }

    private static void loss(UnsoldAtEleven x, int p, int corner, int n, long above, long below) {
        DUE.fraction("13 loss(" + p + ", " + corner + ", " + n + ")",
                x.loss(p, corner, n, true), x.loss(p, corner, n, false), above, below);
    }

    private static void lossOfNoneAndOfAll() {
        UnsoldAtEleven x = Due.townOf(THREES);
        loss(x, 0, 0, 0, 0, 1);
        loss(x, 0, 2, 0, 0, 1);
        loss(x, 60, 0, 60, 36 * 15, 1);
        loss(x, 60, 2, 60, 36 * 15, 1);
        loss(x, 60, 1, 0, 18 * 15, 1);
        loss(x, 60, 1, 17, 15, 1);
        loss(x, 60, 1, 18, 0, 1);
        loss(x, 60, 1, 24, 0, 1);
        loss(x, 60, 1, 25, 15, 1);
        loss(x, 18, 1, 18, 0, 1);
        loss(x, 18, 1, 0, 0, 1);
    }

    private static void lossWithoutAnotherCorner() {
        UnsoldAtEleven x = Due.townOf("N1W0030W0130W0230");
        loss(x, 60, 0, 60, 0, 1);
        loss(x, 60, 0, 18, 0, 1);
        loss(x, 60, 0, 17, 15, 1);
        loss(x, 60, 0, 0, 18 * 15, 1);
        loss(x, 1, 0, 0, 15, 1);
        loss(x, 1, 0, 1, 0, 1);
        // They are left: those that are left bring what one left brings.
        loss(Due.townOf("N1W0030W0130W0230P20R20"), 9, 0, 0, 0, 1);
    }

    private static void lossOfLikeOnesToTheLeast() {
        UnsoldAtEleven x = Due.townOf("N3W0010W0110W0210W1010W1110W1210W2000W2100W2200");
        // Nobody comes to 2; of 12 the two others sell all, less what 2 is given.
        loss(x, 12, 2, 0, 0, 1);
        loss(x, 12, 2, 1, 15, 1);
        loss(x, 12, 2, 12, 180, 1);
        // Corner 0 keeps none of what is given then: corner 1 sells six.
        loss(x, 12, 0, 0, 90, 1);
        loss(x, 12, 1, 0, 90, 1);
        loss(x, 7, 0, 1, 0, 1);
        loss(x, 7, 0, 0, 15, 1);
    }

    private static void lossIsLessThanNothing() {
        UnsoldAtEleven x = Due.townOf(THREES + "P00R99");
        loss(x, 60, 0, 60, -36 * 99, 1);
        loss(x, 54, 0, 54, -36 * 99, 1);
        UnsoldAtEleven third = Due.townOf("N2W0010W0100W0200W1000W1100W1200P00R01");
        // One sold for nothing on a third of the days is one left less: the nephew, to whom nobody comes, earns more.
        loss(third, 1, 1, 1, -1, 3);
        loss(third, 1, 0, 1, 0, 1);
    }
}
