/** The boundary cases of promises 21 to 29, sentence by sentence. */
public final class MorningEdgesTest {
    private static final Due DUE = new Due();
    private static final Edges EDGES = new Edges(DUE);
    private static final String NOBODY = "N3W0000W1000W2000";

    public static void main(String[] args) {
        dayRefuses();
        dayOfEachKind();
        givesRefuses();
        givesOfNoneAndOfSixty();
        moreRefuses();
        moreOfEachBit();
        vanRefuses();
        vanOfNoneAndOfSixty();
        vanOfRuleZeroStays();
        ringNotAheadOfTheFirst();
        ringOfOneAndOfTwenty();
        ringOnlyWhoIsWithout();
        ringAsLongAsItHasSome();
        ringInOrder();
        shareAheadOfFirstAndLast();
        shareRoundCorners();
        orderRefuses();
        orderIsFullAtSix();
        orderOfOneAndOfTwenty();
        orderAsManyAsItHasYet();
        orderOfFirstAndLastHalfHour();
        orderAsTold();
        orderAheadOfTheRule();
        unorderOfNoneAndOfSix();
        morningRefuses();
        morningOfFirstAndLastHalfHour();
        whoGoesOnAndWhoIsHome();
        buysIfThereIsOne();
        endedRefuses();
        endedOfLeastAndMost();
        ranOutRefuses();
        ranOutFirstLastAndNever();
        DUE.end();
    }

    private static void dayRefuses() {
        EDGES.range("21 day", Edges::full, 0, 2, -1, (x, kind) -> x.day(kind));
        EDGES.range("21 day", UnsoldAtEleven::new, 0, 2, -1, (x, kind) -> x.day(kind));
    }

    private static void dayOfEachKind() {
        UnsoldAtEleven x = Due.townOf("N1W0000W0120W0230");
        int[] come = {0, 2, 3};
        int was = 0;
        for (int kind : new int[] {0, 2, 1, 1, 0, 2}) {
            DUE.of("21 of which it was", x.day(kind), was);
            DUE.of("21 who comes", x.morning(0, 0, 2), come[kind]);
            DUE.of("21 refused", x.day(3), -1);
            DUE.of("21 who comes then", x.morning(0, 5, 2), come[kind]);
            was = kind;
        }
    }

    private static void givesRefuses() {
        EDGES.corners("22 gives", -1, (x, corner) -> x.gives(corner, 1));
        EDGES.range("22 gives", Edges::full, 0, 60, -2, (x, g) -> x.gives(2, g));
        EDGES.first("22 gives", Edges::full, new int[] {2, 60}, new int[][] {{3, -1}, {61, -1}}, new int[] {-1, -2}, 0,
                (x, of) -> x.gives(of[0], of[1]));
    }

    private static void givesOfNoneAndOfSixty() {
        UnsoldAtEleven x = Due.townOf(NOBODY);
        for (int corner = 0; corner < 3; corner++) {
            DUE.of("22 none before", x.gives(corner, 60), 0);
            DUE.of("22 sixty", x.morning(corner, 0, 0), 60);
            DUE.of("37 given out", x.count(3), 60 * corner + 60);
        }
        DUE.of("28 left", x.ended(1), 180);
        for (int corner = 0; corner < 3; corner++) {
            DUE.of("22 sixty before", x.gives(corner, 0), 60);
            DUE.of("22 none", x.morning(corner, 5, 0), 0);
        }
        DUE.of("37 none is given out", x.count(3), 0);
    }

    private static void moreRefuses() {
        EDGES.corners("23 more", -1, (x, corner) -> x.more(corner, 1));
        EDGES.range("23 more", Edges::full, 0, 63, -2, (x, bits) -> x.more(2, bits));
        EDGES.first("23 more", Edges::full, new int[] {2, 63}, new int[][] {{3, -1}, {64, -1, 127}}, new int[] {-1, -2}, 0,
                (x, of) -> x.more(of[0], of[1]));
    }

    private static void moreOfEachBit() {
        UnsoldAtEleven x = Due.townOf(NOBODY);
        int was = 0;
        for (int bits = 0; bits <= 63; bits++) {
            DUE.of("23 it did", x.more(1, bits), was);
            was = bits;
            for (int halfHour = 0; halfHour < 6; halfHour += bits % 7 == 0 ? 1 : 5) {
                DUE.of("23 comes by " + bits + " in " + halfHour, x.morning(1, halfHour, 2), bits >> halfHour & 1);
            }
        }
        DUE.of("23 to others nobody", x.morning(0, 0, 2) + x.morning(2, 5, 2), 0);
    }

    private static void vanRefuses() {
        for (int rule = 0; rule <= 2; rule++) {
            int by = rule;
            EDGES.range("24 van, v", Edges::full, 0, 60, -2, (x, v) -> x.van(v, by, by == 1 ? 1 : 0));
        }
        EDGES.range("24 van, rule", Edges::full, 0, 2, -2, (x, rule) -> x.van(60, rule, rule == 1 ? 1 : 0));
        EDGES.range("24 van, r of none", Edges::full, 0, 0, -2, (x, r) -> x.van(60, 0, r));
        EDGES.range("24 van, r of RING", Edges::full, 1, 20, -2, (x, r) -> x.van(60, 1, r));
        EDGES.range("24 van, r of SHARE", Edges::full, 0, 5, -2, (x, r) -> x.van(60, 2, r));
        int[][] good = {{60, 0, 0}, {60, 1, 20}, {60, 2, 5}};
        int[][] wrong = {{1, -1, 20}, {0, 21, -1}, {6, -1, 20}};
        for (int rule = 0; rule <= 2; rule++) {
            EDGES.first("24 van", Edges::full, good[rule], new int[][] {{61, -1}, {3, -1}, wrong[rule]},
                    new int[] {-2, -2, -2}, 0, (x, of) -> x.van(of[0], of[1], of[2]));
        }
    }

    private static void vanOfNoneAndOfSixty() {
        UnsoldAtEleven x = Due.townOf(NOBODY);
        DUE.of("24 it had none", x.van(60, 0, 0), 0);
        DUE.of("28 it has sixty", x.ended(2), 60);
        DUE.of("24 it had sixty", x.van(0, 0, 0), 60);
        DUE.of("28 it has none", x.ended(2), 0);
        x.van(60, 2, 0);
        x.ended(2);
        DUE.of("24 it had sixty, though it gave them", x.van(0, 1, 20), 60);
        DUE.of("28 none by ringing", x.ended(1), 0);
        x.van(0, 2, 0);
        DUE.of("28 none by sharing", x.ended(1), 0);
        x.order(0, 0, 1);
        DUE.of("28 none by an order", x.ended(1), 0);
    }

    private static void vanOfRuleZeroStays() {
        UnsoldAtEleven x = Due.townOf("N3");
        x.van(60, 1, 20);
        x.van(60, 0, 0);
        DUE.of("24 it stays", x.ended(2), 60);
        DUE.of("24 nobody buys", x.ended(0), 0);
        x.order(5, 2, 20);
        DUE.of("25 but for an order", x.ended(2), 40);
        DUE.of("25 that one buys of", x.ended(0), 1);
    }

    private static void behind(UnsoldAtEleven x, String call, int corner, int what, int... due) {
        for (int halfHour = 0; halfHour < 6; halfHour++) {
            DUE.of(call + ", morning(" + corner + ", " + halfHour + ", " + what + ")", x.morning(corner, halfHour, what),
                    due[halfHour]);
        }
    }

    private static void ringNotAheadOfTheFirst() {
        UnsoldAtEleven x = Due.townOf(NOBODY);
        x.van(60, 1, 20);
        for (int corner = 0; corner < 3; corner++) {
            behind(x, "24 ring", corner, 0, 0, 20, 20, 20, 20, 20);
        }
        UnsoldAtEleven one = Due.townOf("N1W0010");
        one.van(6, 1, 1);
        behind(one, "24 ring", 0, 3, 1, 0, 0, 0, 0, 0);
        DUE.of("24 one is left", one.ended(2), 1);
    }

    private static void ringOfOneAndOfTwenty() {
        UnsoldAtEleven x = Due.townOf("N1W0010");
        x.van(60, 1, 1);
        DUE.of("24 one each half hour but the first", x.ended(2), 55);
        behind(x, "24 ring of one", 0, 1, 0, 1, 2, 3, 4, 5);
        x.van(60, 1, 20);
        DUE.of("24 twenty once", x.ended(2), 40);
        behind(x, "24 ring of twenty", 0, 0, 0, 19, 18, 17, 16, 15);
    }

    private static void ringOnlyWhoIsWithout() {
        UnsoldAtEleven x = Due.townOf("N1W0010");
        x.gives(0, 2);
        x.van(10, 1, 5);
        behind(x, "24 ring behind two", 0, 0, 1, 0, 4, 3, 2, 1);
        DUE.of("24 five are left", x.ended(2), 5);
        x.gives(0, 1);
        behind(x, "24 ring behind one", 0, 0, 0, 4, 3, 2, 1, 0);
        x.gives(0, 6);
        DUE.of("24 nobody rings", x.ended(2), 10);
    }

    private static void ringAsLongAsItHasSome() {
        UnsoldAtEleven x = Due.townOf("N1W0030");
        x.van(5, 1, 4);
        behind(x, "24 ring, fewer", 0, 0, 0, 1, 0, 0, 0, 0);
        behind(x, "24 ring, fewer", 0, 1, 0, 3, 4, 5, 5, 5);
        DUE.of("24 none is left", x.ended(2), 0);
        x.van(4, 1, 4);
        behind(x, "24 ring, just so many", 0, 1, 0, 3, 4, 4, 4, 4);
        x.van(3, 1, 4);
        behind(x, "24 ring, one too few", 0, 1, 0, 3, 3, 3, 3, 3);
        x.van(1, 1, 20);
        behind(x, "24 ring, one", 0, 1, 0, 1, 1, 1, 1, 1);
        x.van(0, 1, 20);
        behind(x, "24 ring, none", 0, 1, 0, 0, 0, 0, 0, 0);
    }

    private static void ringInOrder() {
        int[][] due = {{0, 0, 0}, {1, 0, 0}, {2, 0, 0}, {2, 1, 0}, {2, 2, 0}, {2, 2, 1}, {2, 2, 2}, {2, 2, 2}};
        UnsoldAtEleven x = Due.townOf(NOBODY);
        for (int v = 0; v < due.length; v++) {
            x.van(v, 1, 2);
            for (int corner = 0; corner < 3; corner++) {
                DUE.of("24 ring of " + v + " at " + corner, x.morning(corner, 1, 0), due[v][corner]);
            }
        }
        DUE.of("24 one is left", x.ended(2), 1);
        x.gives(0, 1);
        DUE.of("24 who is not without is passed by", x.morning(0, 5, 0), 1);
        DUE.of("24 the others are not", x.ended(2), 3);
    }

    private static void shareAheadOfFirstAndLast() {
        UnsoldAtEleven x = Due.townOf(NOBODY);
        for (int halfHour = 0; halfHour <= 5; halfHour++) {
            x.van(60, 2, halfHour);
            for (int h = 0; h <= 5; h++) {
                DUE.of("24 shared ahead of " + halfHour + ", behind " + h, x.morning(2, h, 0), h < halfHour ? 0 : 20);
            }
        }
        DUE.of("24 it gives all", x.ended(2), 0);
    }

    private static void shareRoundCorners() {
        UnsoldAtEleven x = Due.townOf(NOBODY);
        for (int v = 0; v <= 60; v += v < 8 ? 1 : 13) {
            x.van(v, 2, 5);
            for (int corner = 0; corner < 3; corner++) {
                DUE.of("24 share of " + v + " at " + corner, x.morning(corner, 5, 0), (v + 2 - corner) / 3);
            }
        }
        UnsoldAtEleven two = Due.townOf("N2W0000W1000");
        two.van(7, 2, 0);
        DUE.of("24 of two corners", two.morning(0, 0, 0), 4);
        DUE.of("24 of two corners", two.morning(1, 0, 0), 3);
        UnsoldAtEleven one = Due.townOf("N1W0000");
        one.van(60, 2, 0);
        DUE.of("24 of one corner", one.morning(0, 0, 0), 60);
        // With papers or without, all are given alike.
        two.gives(0, 60);
        DUE.of("24 to who has some", two.morning(0, 0, 0), 64);
        // All that it has then: the half hours ahead of it had orders.
        two.order(0, 1, 2);
        DUE.of("24 all but what was ordered", two.morning(1, 0, 0), 4);
        DUE.of("24 all but what was ordered", two.morning(0, 0, 0), 63);
    }

    private static void orderRefuses() {
        EDGES.corners("25 order", -1, (x, corner) -> x.order(0, corner, 1));
        EDGES.range("25 order, half hour", () -> Due.townOf("N3"), 0, 5, -1, (x, halfHour) -> x.order(halfHour, 2, 20));
        EDGES.range("25 order, m", () -> Due.townOf("N3"), 1, 20, -2, (x, m) -> x.order(5, 2, m));
        int[][] bad = {{6, -1}, {3, -1}, {21, 0, -1}};
        int[] codes = {-1, -1, -2};
        EDGES.first("25 order", () -> Due.townOf("N3"), new int[] {5, 2, 20}, bad, codes, 0,
                (x, of) -> x.order(of[0], of[1], of[2]));
        EDGES.first("25 order", Edges::full, new int[] {5, 2, 20}, bad, codes, -4,
                (x, of) -> x.order(of[0], of[1], of[2]));
    }

    private static void orderIsFullAtSix() {
        UnsoldAtEleven x = Due.townOf(NOBODY);
        x.van(60, 0, 0);
        for (int i = 0; i < 6; i++) {
            DUE.of("25 its number", x.order(i, i % 3, i + 1), i);
            DUE.of("25 so many", x.count(2), i + 1);
        }
        DUE.of("25 21 are given", x.ended(1), 21);
        DUE.of("25 full", x.order(0, 0, 20), -4);
        DUE.of("25 none more is given", x.ended(1), 21);
        DUE.of("25 six", x.count(2), 6);
    }

    private static void orderOfOneAndOfTwenty() {
        UnsoldAtEleven x = Due.townOf(NOBODY);
        x.van(60, 0, 0);
        x.order(0, 0, 1);
        DUE.of("25 one", x.ended(2), 59);
        x.order(0, 1, 20);
        DUE.of("25 twenty", x.ended(2), 39);
        DUE.of("25 refused", x.order(0, 1, 21), -2);
        DUE.of("25 refused", x.order(0, 1, 0), -2);
        DUE.of("25 as before", x.ended(2), 39);
    }

    private static void orderAsManyAsItHasYet() {
        UnsoldAtEleven x = Due.townOf(NOBODY);
        x.van(6, 0, 0);
        x.order(3, 0, 5);
        x.order(3, 1, 5);
        x.order(4, 2, 5);
        behind(x, "25 all five", 0, 0, 0, 0, 0, 5, 5, 5);
        behind(x, "25 the one that it has yet", 1, 0, 0, 0, 0, 1, 1, 1);
        behind(x, "25 none", 2, 0, 0, 0, 0, 0, 0, 0);
        x.van(11, 0, 0);
        behind(x, "25 one", 2, 0, 0, 0, 0, 0, 1, 1);
        x.van(15, 0, 0);
        DUE.of("25 just so many", x.ended(2), 0);
        x.van(16, 0, 0);
        DUE.of("25 one too many", x.ended(2), 1);
    }

    private static void orderOfFirstAndLastHalfHour() {
        UnsoldAtEleven x = Due.townOf("N1W0010");
        x.van(60, 0, 0);
        x.order(5, 0, 3);
        behind(x, "25 ahead of the last", 0, 0, 0, 0, 0, 0, 0, 2);
        x.order(0, 0, 2);
        behind(x, "25 ahead of the first", 0, 0, 1, 0, 0, 0, 0, 2);
        DUE.of("25 three are sold", x.ended(0), 3);
    }

    private static void orderAsTold() {
        UnsoldAtEleven x = Due.townOf(NOBODY);
        x.van(5, 0, 0);
        x.order(2, 2, 3);
        x.order(2, 0, 4);
        x.order(2, 1, 4);
        DUE.of("25 the first told", x.morning(2, 2, 0), 3);
        DUE.of("25 the second told", x.morning(0, 2, 0), 2);
        DUE.of("25 the third told", x.morning(1, 2, 0), 0);
        // One for an earlier half hour goes ahead, though it is told later.
        x.order(1, 1, 4);
        DUE.of("25 the earlier half hour", x.morning(1, 2, 0), 4);
        DUE.of("25 the first told for the later one", x.morning(2, 2, 0), 1);
    }

    private static void orderAheadOfTheRule() {
        UnsoldAtEleven x = Due.townOf(NOBODY);
        x.van(4, 1, 3);
        x.order(1, 0, 1);
        DUE.of("25 so it is not without", x.morning(0, 5, 0), 1);
        DUE.of("25 three by ringing", x.morning(1, 1, 0), 3);
        x.unorder();
        x.order(2, 2, 2);
        x.van(4, 2, 2);
        DUE.of("25 two of four, and none of two by sharing", x.morning(2, 2, 0), 2);
        DUE.of("25 one by sharing", x.morning(0, 2, 0), 1);
        x.van(2, 2, 2);
        DUE.of("25 none is left to share", x.morning(0, 2, 0), 0);
    }

    private static void unorderOfNoneAndOfSix() {
        UnsoldAtEleven x = Edges.full();
        DUE.of("26 six", x.unorder(), 6);
        DUE.of("26 none", x.unorder(), 0);
        DUE.of("26 none", x.count(2), 0);
        x.van(60, 0, 0);
        DUE.of("26 none is given", x.ended(2), 60);
        x.order(0, 0, 1);
        DUE.of("26 the new one alone is given", x.ended(2), 59);
        x.unorder();
        DUE.of("26 of a new one", new UnsoldAtEleven().unorder(), 0);
        for (int i = 0; i < 6; i++) {
            DUE.of("26 from 0 again", x.order(5, 2, 20), i);
        }
        DUE.of("26 full again", x.order(5, 2, 20), -4);
        DUE.of("26 kept ones are not gone", x.again(0), 13);
        DUE.of("26 kept ones are not gone", x.unorder(), 6);
    }

    private static void morningRefuses() {
        EDGES.corners("27 morning", -1, (x, corner) -> x.morning(corner, 5, 3));
        EDGES.range("27 morning, half hour", Edges::full, 0, 5, -1, (x, halfHour) -> x.morning(2, halfHour, 3));
        EDGES.range("27 morning, what", Edges::full, 0, 3, -2, (x, what) -> x.morning(2, 5, what));
        EDGES.first("27 morning", Edges::full, new int[] {2, 5, 3}, new int[][] {{3, -1}, {6, -1}, {4, -1}},
                new int[] {-1, -1, -2}, 0, (x, of) -> x.morning(of[0], of[1], of[2]));
    }

    private static void morningOfFirstAndLastHalfHour() {
        UnsoldAtEleven x = Due.townOf("N2W0030W1010G01");
        x.gives(0, 7);
        x.gives(1, 60);
        behind(x, "27 has", 0, 0, 4, 1, 0, 0, 0, 0);
        behind(x, "27 sold", 0, 1, 3, 6, 7, 7, 7, 7);
        behind(x, "27 came", 0, 2, 3, 3, 3, 3, 3, 3);
        behind(x, "27 none for", 0, 3, 0, 0, 2, 3, 3, 3);
        // In the first half hour nobody goes on yet; in the last come those of the one before.
        behind(x, "27 came", 1, 2, 1, 1, 1, 3, 4, 4);
        behind(x, "27 none for", 1, 3, 0, 0, 0, 0, 0, 0);
        behind(x, "27 sold", 1, 1, 1, 2, 3, 6, 10, 14);
    }

    private static void whoGoesOnAndWhoIsHome() {
        UnsoldAtEleven x = Due.townOf("N2W0030W1000G01");
        x.gives(1, 60);
        // Three go on five times; those of the last half hour are home.
        DUE.of("28 sold", x.ended(0), 15);
        DUE.of("28 home", x.ended(3), 3);
        behind(x, "27 came", 1, 2, 0, 3, 3, 3, 3, 3);
        UnsoldAtEleven home = Due.townOf("N2W0030W1000");
        home.gives(1, 60);
        DUE.of("28 nobody goes on from there", home.ended(3), 18);
        DUE.of("28 nobody comes", home.ended(0), 0);
        UnsoldAtEleven round = Due.townOf("N2W0030W1000G01G10");
        // 0 sends 3, 3, 6, 6, 9, 9 on and 1 sends them back; the nine of 0 and the nine of 1 are home at last.
        behind(round, "27 none for, round", 0, 3, 3, 3, 6, 6, 9, 9);
        behind(round, "27 none for, round", 1, 3, 0, 3, 3, 6, 6, 9);
        DUE.of("28 all are home", round.ended(3), 18);
    }

    private static void buysIfThereIsOne() {
        UnsoldAtEleven x = Due.townOf("N1W0030");
        int[] none = {3, 2, 1, 0, 0};
        for (int g = 0; g < none.length; g++) {
            x.gives(0, g);
            DUE.of("27 has of " + g, x.morning(0, 0, 0), Math.max(0, g - 3));
            DUE.of("27 sold of " + g, x.morning(0, 0, 1), Math.min(g, 3));
            DUE.of("27 came, " + g, x.morning(0, 0, 2), 3);
            DUE.of("27 none for, " + g, x.morning(0, 0, 3), none[g]);
        }
    }

    private static void endedRefuses() {
        EDGES.range("28 ended", Edges::full, 0, 4, -2, (x, what) -> x.ended(what));
        EDGES.range("28 ended", UnsoldAtEleven::new, 0, 4, -2, (x, what) -> x.ended(what));
    }

    private static void ended(UnsoldAtEleven x, int... due) {
        for (int what = 0; what <= 4; what++) {
            DUE.of("28 ended(" + what + ")", x.ended(what), due[what]);
        }
    }

    private static void endedOfLeastAndMost() {
        ended(new UnsoldAtEleven(), 0, 0, 0, 6, 100000);
        ended(Due.townOf(NOBODY), 0, 0, 0, 0, 100000);
        UnsoldAtEleven dear = Due.townOf(NOBODY + "C99P99R00");
        UnsoldAtEleven good = Due.townOf("N3W0030W1030W2030C00P99R98");
        for (UnsoldAtEleven x : new UnsoldAtEleven[] {dear, good}) {
            for (int corner = 0; corner < 3; corner++) {
                x.gives(corner, 60);
            }
            x.van(60, 0, 0);
        }
        ended(dear, 0, 180, 60, 0, 100000 - 240 * 99);
        ended(good, 54, 126, 60, 0, 100000 + 54 * 99 + 186 * 98);
        // The van's cost, given or not; and what is left in it brings what one left brings.
        UnsoldAtEleven x = Due.townOf("N1W0000");
        x.van(1, 0, 0);
        ended(x, 0, 0, 1, 0, 99995);
        x.van(1, 2, 5);
        ended(x, 0, 1, 0, 0, 99995);
    }

    private static void ranOutRefuses() {
        EDGES.corners("29 ranOut", -1, (x, corner) -> x.ranOut(corner));
    }

    private static void ranOutFirstLastAndNever() {
        UnsoldAtEleven x = Due.townOf("N2W0010W1000");
        int[] due = {0, 1, 2, 3, 4, 5, -9, -9};
        for (int g = 0; g < due.length; g++) {
            x.gives(0, g);
            DUE.of("29 of " + g, x.ranOut(0), due[g]);
        }
        DUE.of("29 without papers, but nobody comes", x.ranOut(1), -9);
        x.more(1, 32);
        DUE.of("29 the last half hour", x.ranOut(1), 5);
        x.more(1, 33);
        DUE.of("29 the first of two", x.ranOut(1), 0);
        UnsoldAtEleven on = Due.townOf("N2W0010W1000G01");
        DUE.of("29 who goes on finds none", on.ranOut(1), 1);
    }
}
