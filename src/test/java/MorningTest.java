/** Promises 21 to 34: a morning, habits, a second printing, boys who are paid. */
public final class MorningTest {
    private static final Due DUE = new Due();
    // Two come to corner 0 and go on to corner 1; one comes to corner 1 and goes home.
    private static final String TOWN = "N2W0020W1010G01";

    public static void main(String[] args) {
        day();
        gives();
        more();
        van();
        order();
        unorder();
        morning();
        ended();
        ring();
        share();
        orders();
        ranOut();
        habits();
        days();
        second();
        secondBehindTheVan();
        paid();
        leastPay();
        DUE.end();
    }

    private static UnsoldAtEleven sevenGivenOut() {
        UnsoldAtEleven x = Due.townOf(TOWN);
        x.gives(0, 4);
        x.gives(1, 3);
        return x;
    }

    private static void day() {
        UnsoldAtEleven x = Due.townOf("N1W0000W0120W0230");
        DUE.of("21 day", x.day(2), 0);
        DUE.of("21 three come", x.morning(0, 0, 2), 3);
        DUE.of("21 day", x.day(3), -1);
        DUE.of("21 day", x.day(-1), -1);
        DUE.of("21 day", x.day(1), 2);
        DUE.of("21 two come", x.morning(0, 0, 2), 2);
        DUE.of("21 day", x.day(0), 1);
        DUE.of("21 none comes", x.morning(0, 0, 2), 0);
    }

    private static void gives() {
        UnsoldAtEleven x = Due.townOf(TOWN);
        DUE.of("22 gives", x.gives(0, 60), 0);
        DUE.of("22 gives", x.gives(1, 7), 0);
        int[][] refused = {{2, 0, -1}, {-1, 0, -1}, {0, 61, -2}, {0, -1, -2}, {2, 61, -1}, {Integer.MAX_VALUE, 0, -1}};
        for (int[] r : refused) {
            DUE.of("22 refused", x.gives(r[0], r[1]), r[2]);
        }
        DUE.of("22 given out", x.count(3), 67);
        DUE.of("22 gives", x.gives(0, 0), 60);
        DUE.of("22 gives", x.gives(1, 0), 7);
    }

    private static void more() {
        UnsoldAtEleven x = Due.townOf(TOWN);
        DUE.of("23 more", x.more(1, 37), 0);
        int[] come = {2, 3, 4, 3, 3, 4};
        for (int h = 0; h < 6; h++) {
            DUE.of("23 come to 1 in " + h, x.morning(1, h, 2), come[h]);
            DUE.of("23 come to 0 in " + h, x.morning(0, h, 2), 2);
        }
        int[][] refused = {{2, 0, -1}, {-1, 0, -1}, {0, 64, -2}, {0, -1, -2}, {2, 64, -1}};
        for (int[] r : refused) {
            DUE.of("23 refused", x.more(r[0], r[1]), r[2]);
        }
        DUE.of("23 more", x.more(1, 63), 37);
        DUE.of("23 more", x.more(1, 0), 63);
        DUE.of("23 more at 0", x.more(0, 0), 0);
    }

    private static void van() {
        UnsoldAtEleven x = Due.townOf(TOWN);
        DUE.of("24 van", x.van(60, 0, 0), 0);
        int[][] refused = {{-1, 0, 0}, {61, 0, 0}, {5, -1, 0}, {5, 3, 0}, {5, 0, 1}, {5, 0, -1}, {5, 1, 0}, {5, 1, 21},
            {5, 2, -1}, {5, 2, 6}, {61, 3, 9}, {Integer.MIN_VALUE, 0, 0}, {5, Integer.MAX_VALUE, 0}};
        for (int[] r : refused) {
            DUE.of("24 refused", x.van(r[0], r[1], r[2]), -2);
        }
        DUE.of("24 it stays", x.ended(2), 60);
        DUE.of("24 van", x.van(1, 1, 1), 60);
        DUE.of("24 van", x.van(2, 1, 20), 1);
        DUE.of("24 van", x.van(3, 2, 0), 2);
        DUE.of("24 van", x.van(4, 2, 5), 3);
        DUE.of("24 van", x.van(0, 0, 0), 4);
    }

    private static void order() {
        UnsoldAtEleven x = Due.townOf(TOWN);
        int[][] refused = {{6, 0, 1, -1}, {-1, 0, 1, -1}, {0, 2, 1, -1}, {0, -1, 1, -1}, {0, 0, 0, -2}, {0, 0, 21, -2},
            {0, 0, -1, -2}, {6, 0, 21, -1}, {0, 2, 0, -1}};
        for (int[] r : refused) {
            DUE.of("25 refused", x.order(r[0], r[1], r[2]), r[3]);
        }
        DUE.of("25 none", x.count(2), 0);
        for (int i = 0; i < 6; i++) {
            DUE.of("25 order", x.order(5 - i, i % 2, 1 + 19 * (i % 2)), i);
        }
        DUE.of("25 a seventh", x.order(0, 0, 1), -4);
        DUE.of("25 UNKNOWN ahead of FULL", x.order(0, 2, 1), -1);
        DUE.of("25 OUTSIDE ahead of FULL", x.order(0, 0, 21), -2);
        DUE.of("25 six", x.count(2), 6);
    }

    private static void unorder() {
        UnsoldAtEleven x = Due.townOf(TOWN);
        DUE.of("26 none", x.unorder(), 0);
        x.van(20, 0, 0);
        x.order(0, 0, 5);
        x.order(0, 1, 5);
        DUE.of("26 ten were given", x.ended(2), 10);
        DUE.of("26 two", x.unorder(), 2);
        DUE.of("26 gone", x.count(2), 0);
        DUE.of("26 none is given", x.ended(2), 20);
        DUE.of("26 the first again", x.order(0, 0, 5), 0);
    }

    private static void morning(UnsoldAtEleven x, int corner, int what, int... due) {
        for (int h = 0; h < 6; h++) {
            DUE.of("27 morning(" + corner + ", " + h + ", " + what + ")", x.morning(corner, h, what), due[h]);
        }
    }

    private static void morning() {
        UnsoldAtEleven x = sevenGivenOut();
        morning(x, 0, 0, 2, 0, 0, 0, 0, 0);
        morning(x, 0, 1, 2, 4, 4, 4, 4, 4);
        morning(x, 0, 2, 2, 2, 2, 2, 2, 2);
        morning(x, 0, 3, 0, 0, 2, 2, 2, 2);
        morning(x, 1, 0, 2, 1, 0, 0, 0, 0);
        morning(x, 1, 1, 1, 2, 3, 3, 3, 3);
        morning(x, 1, 2, 1, 1, 1, 3, 3, 3);
        morning(x, 1, 3, 0, 0, 0, 3, 3, 3);
        int[][] refused = {{2, 0, 0, -1}, {-1, 0, 0, -1}, {0, 6, 0, -1}, {0, -1, 0, -1}, {0, 0, 4, -2}, {0, 0, -1, -2},
            {2, 0, 4, -1}, {0, 6, 4, -1}};
        for (int[] r : refused) {
            DUE.of("27 refused", x.morning(r[0], r[1], r[2]), r[3]);
        }
        // From two corners to one, and round: who goes on may go on again.
        UnsoldAtEleven round = Due.townOf("N3W0010W1020W2030G02G12G20");
        morning(round, 2, 2, 3, 6, 9, 12, 15, 18);
        morning(round, 0, 2, 1, 4, 7, 10, 13, 16);
        DUE.of("27 all are home at the end", round.ended(3), 36);
        // x is for the mean alone: nobody comes by tenths.
        morning(Due.townOf("N1W0009"), 0, 2, 0, 0, 0, 0, 0, 0);
    }

    private static void ended(UnsoldAtEleven x, int... due) {
        for (int what = 0; what <= 4; what++) {
            DUE.of("28 ended(" + what + ")", x.ended(what), due[what]);
        }
    }

    private static void ended() {
        UnsoldAtEleven x = sevenGivenOut();
        ended(x, 7, 0, 0, 11, 100070);
        x.van(6, 0, 0);
        ended(x, 7, 0, 6, 11, 100040);
        x.gives(1, 60);
        ended(x, 16, 48, 6, 2, 99890);
        DUE.of("28 refused", x.ended(5), -2);
        DUE.of("28 refused", x.ended(-1), -2);
        UnsoldAtEleven prices = Due.townOf(TOWN + "C99P01R02");
        prices.gives(0, 60);
        prices.van(60, 0, 0);
        ended(prices, 12, 48, 60, 6, 100000 + 12 + 216 - 11880);
    }

    private static void ring() {
        UnsoldAtEleven x = sevenGivenOut();
        x.van(7, 1, 2);
        morning(x, 0, 0, 2, 0, 0, 0, 0, 0);
        morning(x, 0, 1, 2, 4, 6, 8, 9, 9);
        morning(x, 1, 0, 2, 1, 0, 1, 0, 0);
        morning(x, 1, 3, 0, 0, 0, 0, 0, 2);
        ended(x, 14, 0, 0, 4, 100140);
        UnsoldAtEleven empty = Due.townOf(TOWN);
        empty.van(9, 1, 5);
        morning(empty, 0, 3, 2, 0, 0, 1, 2, 2);
        morning(empty, 1, 0, 0, 1, 0, 0, 0, 0);
        ended(empty, 9, 0, 0, 9, 100090);
        // Corners in order: what corner 0 leaves is corner 1's.
        empty.van(3, 1, 2);
        morning(empty, 1, 1, 0, 1, 1, 1, 1, 1);
    }

    private static void share() {
        UnsoldAtEleven x = sevenGivenOut();
        x.van(5, 2, 3);
        morning(x, 0, 0, 2, 0, 0, 1, 0, 0);
        morning(x, 1, 1, 1, 2, 3, 5, 5, 5);
        ended(x, 12, 0, 0, 6, 100120);
        x.van(5, 2, 0);
        morning(x, 0, 0, 5, 3, 1, 0, 0, 0);
        morning(x, 1, 0, 4, 3, 2, 1, 0, 0);
        x.van(5, 2, 5);
        morning(x, 0, 1, 2, 4, 4, 4, 4, 6);
        UnsoldAtEleven three = Due.townOf("N3W0000W1000W2000");
        UnsoldAtEleven one = Due.townOf("N1W0000");
        one.van(8, 2, 1);
        morning(one, 0, 0, 0, 8, 8, 8, 8, 8);
        three.gives(1, 2);
        three.van(8, 2, 4);
        morning(three, 0, 0, 0, 0, 0, 0, 3, 3);
        morning(three, 1, 0, 2, 2, 2, 2, 5, 5);
        morning(three, 2, 0, 0, 0, 0, 0, 2, 2);
    }

    private static void orders() {
        UnsoldAtEleven x = sevenGivenOut();
        x.van(5, 0, 0);
        x.order(2, 1, 3);
        x.order(2, 0, 4);
        morning(x, 0, 1, 2, 4, 6, 6, 6, 6);
        morning(x, 1, 0, 2, 1, 3, 2, 0, 0);
        ended(x, 12, 0, 0, 6, 100120);
        // An order comes ahead of the ring: corner 0 is not without papers then.
        UnsoldAtEleven ring = sevenGivenOut();
        ring.van(4, 1, 2);
        ring.order(2, 0, 1);
        DUE.of("25 one is without", ring.morning(0, 2, 3), 1);
        // And ahead of the sharing, also of what is told later for an earlier half hour.
        UnsoldAtEleven share = Due.townOf("N2W0000W1000");
        share.van(9, 2, 1);
        share.order(5, 0, 20);
        share.order(1, 1, 4);
        share.order(0, 1, 1);
        morning(share, 0, 0, 0, 2, 2, 2, 2, 2);
        morning(share, 1, 0, 1, 7, 7, 7, 7, 7);
        // An order for the first half hour is given, though the van rings from the second on.
        UnsoldAtEleven first = Due.townOf(TOWN);
        first.van(3, 1, 20);
        first.order(0, 1, 2);
        morning(first, 1, 0, 1, 0, 0, 0, 0, 0);
        morning(first, 0, 1, 0, 1, 1, 1, 1, 1);
    }

    private static void ranOut() {
        UnsoldAtEleven x = sevenGivenOut();
        DUE.of("29 at 0", x.ranOut(0), 2);
        DUE.of("29 at 1", x.ranOut(1), 3);
        DUE.of("29 refused", x.ranOut(2), -1);
        DUE.of("29 refused", x.ranOut(-1), -1);
        x.gives(0, 12);
        DUE.of("29 just enough", x.ranOut(0), -9);
        x.gives(1, 0);
        DUE.of("29 corner 1 is out at once", x.ranOut(1), 0);
        DUE.of("29 corner 0 is not", x.ranOut(0), -9);
        x.gives(0, 11);
        DUE.of("29 the last half hour", x.ranOut(0), 5);
        x.gives(0, 0);
        DUE.of("29 the first half hour", x.ranOut(0), 0);
    }

    private static void habits() {
        UnsoldAtEleven x = Due.townOf(TOWN);
        DUE.of("30 at first", x.habit(0), 5);
        DUE.of("30 refused", x.habit(2), -1);
        DUE.of("30 refused", x.habit(-1), -1);
        x.days(2);
        DUE.of("30 three", x.habit(0), 3);
        DUE.of("30 at three b come", x.morning(0, 0, 2), 2);
        x.days(1);
        DUE.of("30 two", x.habit(1), 2);
        DUE.of("30 below three one less comes", x.morning(0, 0, 2), 1);
        DUE.of("30 one less of one", x.morning(1, 0, 2), 0);
        x.more(1, 1);
        DUE.of("30 and who is told", x.morning(1, 0, 2), 1);
        UnsoldAtEleven none = Due.townOf("N1W0000");
        none.more(0, 1);
        none.days(3);
        DUE.of("30 two", none.habit(0), 2);
        DUE.of("30 not below 0", none.morning(0, 0, 2), 1);
        DUE.of("30 not below 0", none.morning(0, 1, 2), 0);
        UnsoldAtEleven all = Due.townOf(TOWN);
        all.gives(0, 60);
        all.gives(1, 60);
        all.days(2);
        DUE.of("30 at seven b come", all.morning(0, 0, 2), 2);
        all.days(1);
        DUE.of("30 eight", all.habit(0), 8);
        DUE.of("30 above seven one more comes", all.morning(0, 0, 2), 3);
        DUE.of("30 and at 1", all.morning(1, 5, 2), 2);
    }

    private static void days() {
        UnsoldAtEleven x = Due.townOf(TOWN);
        for (int n : new int[] {0, -1, 31, Integer.MIN_VALUE, Integer.MAX_VALUE}) {
            DUE.of("31 refused", x.days(n), -2);
        }
        DUE.of("31 no day went by", x.habit(0), 5);
        DUE.of("31 both less", x.days(1), 2);
        DUE.of("31 both less", x.days(4), 2);
        DUE.of("31 none", x.habit(0), 0);
        DUE.of("31 of 0 it is not less", x.days(1), 0);
        DUE.of("31 none", x.habit(1), 0);
        x.gives(0, 60);
        x.gives(1, 60);
        DUE.of("31 both more", x.days(30), 0);
        DUE.of("31 nine at most", x.habit(0), 9);
        x.gives(0, 0);
        DUE.of("31 one less", x.days(1), 1);
        DUE.of("31 eight", x.habit(0), 8);
        DUE.of("31 nine", x.habit(1), 9);
        // Six papers are enough but for a habit above 7: up and down, and the last day alone is told.
        UnsoldAtEleven swing = Due.townOf("N1W0010");
        swing.gives(0, 6);
        DUE.of("31 up to eight", swing.days(3), 0);
        DUE.of("31 down to seven", swing.days(1), 1);
        DUE.of("31 up and down", swing.days(2), 1);
        DUE.of("31 seven", swing.habit(0), 7);
        DUE.of("31 and up", swing.days(29), 0);
        DUE.of("31 papers are as told", swing.count(3), 6);
    }

    private static void second() {
        UnsoldAtEleven x = sevenGivenOut();
        DUE.of("32 two are sold", x.second(0, 2, 2, 1), 100018);
        DUE.of("32 eight are sold", x.second(0, 2, 60, 0), 99820);
        DUE.of("32 none is sold in time", x.second(0, 5, 60, 20), 100000 + 40 + 290 - 1800);
        DUE.of("32 to who goes on", x.second(1, 3, 9, 20), 100000 + 180 - 270);
        DUE.of("32 the least", x.second(1, 0, 1, 0), 100010);
        int[][] refused = {{2, 0, 1, 0, -1}, {-1, 0, 1, 0, -1}, {0, 6, 1, 0, -1}, {0, -1, 1, 0, -1}, {0, 0, 0, 0, -2},
            {0, 0, 61, 0, -2}, {0, 0, 1, -1, -2}, {0, 0, 1, 21, -2}, {2, 0, 0, 0, -1}, {0, 6, 1, 21, -1}};
        for (int[] r : refused) {
            DUE.of("32 refused", x.second(r[0], r[1], r[2], r[3]), r[4]);
        }
        ended(x, 7, 0, 0, 11, 100070);
        x.second(0, 2, 2, 1);
        DUE.of("33 the second printing is none of the boy's", x.paid(0, 1, 1), 4);
        x.van(9, 0, 0);
        DUE.of("32 the van's are left as before", x.second(0, 2, 2, 1), 100018);
        DUE.of("32 other prices", priced().second(0, 0, 3, 4), 100000 + 2 * 31 + 7 - 3 * 16);
    }

    private static UnsoldAtEleven priced() {
        UnsoldAtEleven x = Due.townOf("N1W0010C12P31R07");
        x.gives(0, 4);
        return x;
    }

    private static void secondBehindTheVan() {
        UnsoldAtEleven x = Due.townOf("N1W0010");
        x.van(5, 1, 5);
        DUE.of("32 the van has given", x.second(0, 1, 5, 0), 99975);
        DUE.of("32 the van gives later", x.second(0, 0, 5, 0), 99990);
        DUE.of("32 the van keeps all", x.second(0, 0, 6, 0), 99985);
        UnsoldAtEleven two = Due.townOf("N2W0010W1010");
        two.gives(0, 5);
        two.gives(1, 5);
        two.van(1, 1, 1);
        DUE.of("32 behind the ring", two.second(0, 5, 1, 0), 99995);
        DUE.of("32 behind the ring", two.second(1, 5, 1, 0), 100010);
    }

    private static void paid() {
        UnsoldAtEleven x = Due.townOf(TOWN);
        x.gives(0, 20);
        DUE.of("33 silently", x.paid(0, 3, 4), 36);
        DUE.of("33 crying", x.paid(0, 4, 4), 72);
        DUE.of("33 crying", x.paid(0, 20, 0), 360);
        DUE.of("33 never crying", x.paid(0, 20, 21), 240);
        DUE.of("33 for nothing", x.paid(0, 0, 0), 0);
        DUE.of("33 at a corner without papers", x.paid(1, 20, 0), 0);
        x.more(0, 7);
        DUE.of("33 not two more", x.paid(0, 4, 4), 72);
        DUE.of("33 three more are told", x.paid(0, 3, 4), 45);
        DUE.of("33 it is told as before", x.more(0, 0), 7);
        DUE.of("33 silently again", x.paid(0, 3, 4), 36);
        x.gives(0, 14);
        DUE.of("33 no more than papers", x.paid(0, 5, 5), 70);
        x.gives(0, 0);
        x.gives(1, 60);
        DUE.of("33 at the other corner", x.paid(1, 1, 2), 16);
        DUE.of("33 its boy alone", x.paid(1, 1, 1), 22);
        int[][] refused = {{2, 0, 0, -1}, {-1, 0, 0, -1}, {0, 21, 0, -2}, {0, -1, 0, -2}, {0, 0, 22, -2}, {0, 0, -1, -2},
            {2, 21, 22, -1}};
        for (int[] r : refused) {
            DUE.of("33 refused", x.paid(r[0], r[1], r[2]), r[3]);
        }
    }

    private static void leastPay() {
        UnsoldAtEleven x = Due.townOf(TOWN);
        x.gives(0, 20);
        int[][] due = {{0, 0}, {1, 1}, {12, 1}, {13, 2}, {36, 3}, {37, 4}, {72, 4}, {73, 5}, {360, 20}, {361, -9}, {999, -9}};
        for (int[] d : due) {
            DUE.of("34 leastPay(0, 4, " + d[0] + ")", x.leastPay(0, 4, d[0]), d[1]);
        }
        DUE.of("34 never crying", x.leastPay(0, 21, 241), -9);
        DUE.of("34 never crying", x.leastPay(0, 21, 240), 20);
        DUE.of("34 crying for nothing", x.leastPay(0, 0, 18), 1);
        DUE.of("34 nothing sold", x.leastPay(1, 0, 1), -9);
        DUE.of("34 nothing sold, nothing due", x.leastPay(1, 0, 0), 0);
        int[][] refused = {{2, 0, 0, -1}, {-1, 0, 0, -1}, {0, 22, 0, -2}, {0, -1, 0, -2}, {0, 0, 1000, -2}, {0, 0, -1, -2},
            {2, 22, 0, -1}};
        for (int[] r : refused) {
            DUE.of("34 refused", x.leastPay(r[0], r[1], r[2]), r[3]);
        }
    }
}
