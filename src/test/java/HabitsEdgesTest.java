/** The boundary cases of promises 30 to 34, sentence by sentence. */
public final class HabitsEdgesTest {
    private static final Due DUE = new Due();
    private static final Edges EDGES = new Edges(DUE);

    public static void main(String[] args) {
        habitRefuses();
        habitIsFiveAtFirst();
        habitBelowThree();
        habitBelowThreeOfNobody();
        habitAboveSeven();
        daysRefuse();
        daysOfOneAndOfThirty();
        daysZeroAtLeast();
        daysNineAtMost();
        daysWhereNobodyFindsNone();
        daysAreCountedByTheLastOne();
        secondRefuses();
        secondOfLeastAndMost();
        secondInFirstAndLastHalfHour();
        secondBehindWhatTheVanGives();
        secondIsNotKept();
        paidRefuses();
        paidAtTheEdgeOfCrying();
        paidOfLeastAndMost();
        paidNotTwoMore();
        leastPayRefuses();
        leastPayOfNothing();
        leastPayOfMost();
        leastPayWhereCryingBegins();
        leastPayIsNone();
        DUE.end();
    }

    private static void habitRefuses() {
        EDGES.corners("30 habit", -1, (x, corner) -> x.habit(corner));
    }

    private static void habitIsFiveAtFirst() {
        UnsoldAtEleven x = Due.townOf("N3");
        for (int corner = 0; corner < 3; corner++) {
            DUE.of("30 at first", x.habit(corner), 5);
        }
        x.days(4);
        x.town();
        for (int corner = 0; corner < 3; corner++) {
            DUE.of("30 of a new town", x.habit(corner), 5);
        }
    }

    private static void habitBelowThree() {
        UnsoldAtEleven x = Due.townOf("N1W0030");
        int[] come = {2, 2, 2, 3, 3, 3};
        for (int habit = 5; habit >= 0; habit--) {
            DUE.of("30 habit", x.habit(0), habit);
            DUE.of("30 come by " + habit, x.morning(0, 0, 2), come[habit]);
            DUE.of("30 come by " + habit, x.morning(0, 5, 2), come[habit]);
            x.days(1);
        }
        x.more(0, 1);
        DUE.of("30 one less, and who is told", x.morning(0, 0, 2), 3);
    }

    private static void habitBelowThreeOfNobody() {
        UnsoldAtEleven x = Due.townOf("N2W0000W1010");
        x.more(0, 63);
        x.more(1, 63);
        x.days(3);
        DUE.of("30 below 3", x.habit(0), 2);
        DUE.of("30 not below 0, and who is told", x.morning(0, 0, 2), 1);
        DUE.of("30 one less of one, and who is told", x.morning(1, 0, 2), 1);
        x.more(0, 0);
        x.more(1, 0);
        DUE.of("30 not below 0", x.morning(0, 0, 2), 0);
        DUE.of("30 one less of one", x.morning(1, 0, 2), 0);
        DUE.of("30 nobody finds none", x.ranOut(0), -9);
    }

    private static void habitAboveSeven() {
        UnsoldAtEleven x = Due.townOf("N2W0030W1000");
        x.gives(0, 60);
        x.gives(1, 60);
        int[] more = {0, 0, 0, 1, 1, 1};
        for (int day = 0; day <= 5; day++) {
            DUE.of("30 habit", x.habit(0), Math.min(5 + day, 9));
            DUE.of("30 come of three", x.morning(0, 0, 2), 3 + more[day]);
            DUE.of("30 come of none", x.morning(1, 5, 2), more[day]);
            x.days(1);
        }
        x.more(1, 32);
        DUE.of("30 one more, and who is told", x.morning(1, 5, 2), 2);
    }

    private static void daysRefuse() {
        EDGES.range("31 days", Edges::full, 1, 30, -2, (x, n) -> x.days(n));
        EDGES.range("31 days", UnsoldAtEleven::new, 1, 30, -2, (x, n) -> x.days(n));
    }

    private static void daysOfOneAndOfThirty() {
        for (int n : new int[] {1, 2, 29, 30}) {
            UnsoldAtEleven x = Due.townOf("N3W0020W1000");
            UnsoldAtEleven y = Due.townOf("N3W0020W1000");
            int less = 0;
            for (int day = 0; day < n; day++) {
                less = y.days(1);
            }
            DUE.of("31 days(" + n + ")", x.days(n), less);
            for (int corner = 0; corner < 3; corner++) {
                DUE.of("31 habit by " + n, x.habit(corner), y.habit(corner));
            }
        }
    }

    private static void daysZeroAtLeast() {
        UnsoldAtEleven x = Due.townOf("N1W0020");
        int[] habits = {4, 3, 2, 1, 0, 0, 0};
        int[] less = {1, 1, 1, 1, 1, 0, 0};
        for (int day = 0; day < habits.length; day++) {
            DUE.of("31 less by day " + day, x.days(1), less[day]);
            DUE.of("31 habit by day " + day, x.habit(0), habits[day]);
        }
        DUE.of("31 five days", Due.townOf("N1W0020").days(5), 1);
        DUE.of("31 six days", Due.townOf("N1W0020").days(6), 0);
        x.gives(0, 60);
        DUE.of("31 from 0 it is more", x.days(1), 0);
        DUE.of("31 one", x.habit(0), 1);
    }

    private static void daysNineAtMost() {
        UnsoldAtEleven x = Due.townOf("N1W0020");
        x.gives(0, 60);
        int[] habits = {6, 7, 8, 9, 9, 9};
        for (int day = 0; day < habits.length; day++) {
            DUE.of("31 not less by day " + day, x.days(1), 0);
            DUE.of("31 habit by day " + day, x.habit(0), habits[day]);
        }
        x.gives(0, 0);
        DUE.of("31 from 9 it is less", x.days(1), 1);
        DUE.of("31 eight", x.habit(0), 8);
    }

    private static void daysWhereNobodyFindsNone() {
        UnsoldAtEleven x = Due.townOf("N3W0000W1010W2010");
        x.gives(1, 6);
        x.gives(2, 5);
        DUE.of("31 one is less", x.days(1), 1);
        DUE.of("31 nobody comes", x.habit(0), 6);
        DUE.of("31 just enough", x.habit(1), 6);
        DUE.of("31 one too few", x.habit(2), 4);
        UnsoldAtEleven on = Due.townOf("N2W0010W1000G01");
        DUE.of("31 who goes on finds none there, too", on.days(1), 2);
        UnsoldAtEleven given = Due.townOf("N2W0010W1000G01");
        given.gives(1, 60);
        DUE.of("31 who goes on finds one", given.days(1), 1);
        DUE.of("31 it is more", given.habit(1), 6);
        DUE.of("31 all three are less", Due.townOf("N3").days(1), 3);
    }

    private static void daysAreCountedByTheLastOne() {
        // Six are just enough but above 7: 5, 6, 7, 8, 7, 8.
        int[] less = {0, 0, 0, 1, 0, 1};
        int[] habits = {6, 7, 8, 7, 8, 7};
        for (int n = 1; n <= 6; n++) {
            UnsoldAtEleven x = Due.townOf("N1W0010");
            x.gives(0, 6);
            DUE.of("31 less by the last of " + n, x.days(n), less[n - 1]);
            DUE.of("31 habit by the last of " + n, x.habit(0), habits[n - 1]);
        }
    }

    private static void secondRefuses() {
        EDGES.corners("32 second", -1, (x, corner) -> x.second(corner, 5, 60, 20));
        EDGES.range("32 second, half hour", Edges::full, 0, 5, -1, (x, halfHour) -> x.second(2, halfHour, 60, 20));
        EDGES.range("32 second, m", Edges::full, 1, 60, -2, (x, m) -> x.second(2, 5, m, 20));
        EDGES.range("32 second, c", Edges::full, 0, 20, -2, (x, c) -> x.second(2, 5, 60, c));
        EDGES.first("32 second", Edges::full, new int[] {2, 5, 60, 20}, new int[][] {{3, -1}, {6, -1}, {61, 0}, {21, -1}},
                new int[] {-1, -1, -2, -2}, 0, (x, of) -> x.second(of[0], of[1], of[2], of[3]));
    }

    private static void secondOfLeastAndMost() {
        UnsoldAtEleven x = Due.townOf("N1W0010");
        DUE.of("32 one, for nothing more", x.second(0, 0, 1, 0), 100010);
        DUE.of("32 one, for 20 more", x.second(0, 0, 1, 20), 99990);
        DUE.of("32 sixty, for nothing more", x.second(0, 0, 60, 0), 100000 + 120 + 54 * 5 - 600);
        DUE.of("32 sixty, for 20 more", x.second(0, 0, 60, 20), 100000 + 120 + 54 * 5 - 1800);
        UnsoldAtEleven dear = Due.townOf("N1W0000C99P99R00");
        DUE.of("32 the least gain", dear.second(0, 5, 60, 20), 100000 - 60 * 119);
        UnsoldAtEleven good = Due.townOf("N1W0000C00P00R99");
        good.van(60, 0, 0);
        DUE.of("32 what the van keeps is no more left", good.second(0, 5, 60, 20), 100000 + 60 * 79);
        good.van(0, 0, 0);
        DUE.of("32 the greatest gain", good.second(0, 5, 60, 0), 100000 + 60 * 99);
    }

    private static void secondInFirstAndLastHalfHour() {
        UnsoldAtEleven x = Due.townOf("N1W0010C10P20R10");
        for (int halfHour = 0; halfHour < 6; halfHour++) {
            DUE.of("32 ahead of " + halfHour, x.second(0, halfHour, 60, 0), 100000 + 10 * (6 - halfHour));
        }
        x.gives(0, 6);
        DUE.of("32 none more is sold", x.second(0, 0, 60, 0), 100000);
        x.gives(0, 5);
        DUE.of("32 one more in the last half hour", x.second(0, 5, 60, 0), 100010);
        DUE.of("32 one more in the last half hour", x.second(0, 0, 1, 0), 100010);
    }

    private static void secondBehindWhatTheVanGives() {
        UnsoldAtEleven x = Due.townOf("N2W0010W1010");
        x.gives(0, 5);
        x.gives(1, 5);
        x.van(1, 1, 1);
        // Corner 0 rings ahead of the last half hour, though the second printing comes to it: corner 1 gets none.
        DUE.of("32 to who rang", x.second(0, 5, 1, 0), 99995);
        DUE.of("32 to who got none", x.second(1, 5, 1, 0), 100010);
        UnsoldAtEleven one = Due.townOf("N1W0010");
        one.van(5, 1, 5);
        DUE.of("32 the van gives later", one.second(0, 0, 5, 0), 100000 + 20 + 4 * 5 - 50);
        DUE.of("32 the van keeps all, and what it keeps is left", one.second(0, 0, 6, 0), 100000 + 20 + 5 * 5 - 60);
        DUE.of("32 the van gives as before", one.second(0, 5, 1, 0), 100000 + 5 - 10);
        // A half hour earlier it keeps corner 0 from ringing ahead of the last one, and corner 1 gets the van's.
        DUE.of("32 ahead of the half hour before", x.second(0, 4, 1, 0), 100010);
    }

    private static void secondIsNotKept() {
        UnsoldAtEleven boy = Due.townOf("N1W0010");
        boy.second(0, 0, 60, 0);
        DUE.of("33 the boy sells none of it, crying", boy.paid(0, 20, 20), 0);
        boy.second(0, 0, 60, 0);
        DUE.of("33 the boy sells none of it, silently", boy.paid(0, 20, 21), 0);
        boy.second(0, 0, 60, 0);
        DUE.of("34 the boy sells none of it", boy.leastPay(0, 0, 1), -9);
        boy.gives(0, 60);
        DUE.of("33 crying", boy.paid(0, 20, 20), 240);
        DUE.of("32 nobody cries for it", boy.second(0, 0, 1, 0), 99995);
        DUE.of("28 nobody cries behind it", boy.ended(0), 6);
        UnsoldAtEleven x = Edges.full();
        x.second(2, 0, 60, 20);
        x.paid(2, 20, 0);
        x.leastPay(2, 0, 999);
        String unlike = Asked.unlike(Asked.of(Edges.full()), Asked.of(x));
        DUE.of("32 nothing is changed: " + unlike, unlike == null ? 0 : 1, 0);
    }

    private static void paidRefuses() {
        EDGES.corners("33 paid", -1, (x, corner) -> x.paid(corner, 20, 21));
        EDGES.range("33 paid, x", Edges::full, 0, 20, -2, (x, pay) -> x.paid(2, pay, 21));
        EDGES.range("33 paid, y", Edges::full, 0, 21, -2, (x, y) -> x.paid(2, 20, y));
        EDGES.first("33 paid", Edges::full, new int[] {2, 20, 21}, new int[][] {{3, -1}, {21, -1}, {22, -1}},
                new int[] {-1, -2, -2}, 0, (x, of) -> x.paid(of[0], of[1], of[2]));
    }

    /** Twelve are sold silently, eighteen by crying. */
    private static UnsoldAtEleven twelveOrEighteen() {
        UnsoldAtEleven x = Due.townOf("N1W0020");
        x.gives(0, 60);
        return x;
    }

    private static void paidAtTheEdgeOfCrying() {
        UnsoldAtEleven x = twelveOrEighteen();
        for (int y = 0; y <= 21; y++) {
            if (y > 0) {
                DUE.of("33 one less than " + y, x.paid(0, y - 1, y), 12 * (y - 1));
            }
            if (y <= 20) {
                DUE.of("33 just " + y, x.paid(0, y, y), 18 * y);
            }
            DUE.of("33 twenty by " + y, x.paid(0, 20, y), y <= 20 ? 360 : 240);
        }
    }

    private static void paidOfLeastAndMost() {
        UnsoldAtEleven x = twelveOrEighteen();
        DUE.of("33 nothing for each", x.paid(0, 0, 0), 0);
        DUE.of("33 nothing for each, silently", x.paid(0, 0, 21), 0);
        x.gives(0, 0);
        DUE.of("33 nothing sold", x.paid(0, 20, 0), 0);
        x.gives(0, 17);
        DUE.of("33 no more than he has", x.paid(0, 20, 0), 340);
        x.gives(0, 18);
        DUE.of("33 just enough", x.paid(0, 20, 0), 360);
        x.gives(0, 19);
        DUE.of("33 one too many", x.paid(0, 20, 0), 360);
        // All that can be: those of two other corners go on to him.
        UnsoldAtEleven three = Due.townOf("N3W0030W1030W2030G02G12");
        three.gives(2, 60);
        DUE.of("33 silently", three.paid(2, 20, 21), 960);
        DUE.of("33 crying", three.paid(2, 20, 20), 1080);
    }

    private static void paidNotTwoMore() {
        UnsoldAtEleven x = twelveOrEighteen();
        for (int bits = 0; bits <= 63; bits++) {
            x.more(0, bits);
            DUE.of("33 crying, told " + bits, x.paid(0, 1, 1), 18);
            DUE.of("33 silently, told " + bits, x.paid(0, 1, 2), 12 + Integer.bitCount(bits));
        }
    }

    private static void leastPayRefuses() {
        EDGES.corners("34 leastPay", -1, (x, corner) -> x.leastPay(corner, 21, 999));
        EDGES.range("34 leastPay, y", Edges::full, 0, 21, -2, (x, y) -> x.leastPay(2, y, 999));
        EDGES.range("34 leastPay, w", Edges::full, 0, 999, -2, (x, w) -> x.leastPay(2, 21, w));
        EDGES.first("34 leastPay", Edges::full, new int[] {2, 21, 999}, new int[][] {{3, -1}, {22, -1}, {1000, -1}},
                new int[] {-1, -2, -2}, 0, (x, of) -> x.leastPay(of[0], of[1], of[2]));
    }

    private static void leastPayOfNothing() {
        UnsoldAtEleven x = new UnsoldAtEleven();
        DUE.of("34 nothing", x.leastPay(0, 0, 0), 0);
        DUE.of("34 nothing, never crying", x.leastPay(0, 21, 0), 0);
        DUE.of("34 one, of nothing sold", x.leastPay(0, 21, 1), -9);
        DUE.of("34 one", twelveOrEighteen().leastPay(0, 21, 1), 1);
    }

    private static void leastPayOfMost() {
        UnsoldAtEleven x = Due.townOf("N3W0030W1030W2030G02G12");
        x.gives(2, 60);
        DUE.of("34 by crying, 54 by 19", x.leastPay(2, 0, 999), 19);
        DUE.of("34 by 18 just so much", x.leastPay(2, 0, 972), 18);
        DUE.of("34 one more", x.leastPay(2, 0, 973), 19);
        DUE.of("34 silently 48 by 20", x.leastPay(2, 21, 960), 20);
        DUE.of("34 one more", x.leastPay(2, 21, 961), -9);
        DUE.of("34 crying from 20 on", x.leastPay(2, 20, 961), 20);
        DUE.of("34 crying from 20 on", x.leastPay(2, 20, 999), 20);
    }

    private static void leastPayWhereCryingBegins() {
        UnsoldAtEleven x = twelveOrEighteen();
        // Silently 12, 24, 36, 48; crying from 5 on 90, 108.
        int[][] due = {{12, 1}, {13, 2}, {48, 4}, {49, 5}, {90, 5}, {91, 6}, {108, 6}, {109, 7}, {360, 20}, {361, -9}};
        for (int[] d : due) {
            DUE.of("34 of " + d[0], x.leastPay(0, 5, d[0]), d[1]);
        }
    }

    private static void leastPayIsNone() {
        UnsoldAtEleven x = twelveOrEighteen();
        DUE.of("34 just by 20", x.leastPay(0, 21, 240), 20);
        DUE.of("34 none", x.leastPay(0, 21, 241), -9);
        DUE.of("34 none of the most", x.leastPay(0, 0, 999), -9);
        DUE.of("34 by crying at 20", x.leastPay(0, 20, 241), 20);
    }
}
