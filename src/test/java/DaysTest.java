/** Promises 14 to 18: which kind of day it is by who came. */
public final class DaysTest {
    private static final Due DUE = new Due();
    // Shares 2, 1, 1; at corner 0 b 1 and x 5, 3, 7; at corner 1 b 2 and x 0, 0, 5.
    private static final String TOWN = "N2K02W0015W0113W0217W1020W1120W1225";

    public static void main(String[] args) {
        see();
        unsee();
        likely();
        likeliest();
        ask();
        askOfKindsThatWeigh();
        DUE.end();
    }

    private static void see() {
        UnsoldAtEleven x = Due.townOf(TOWN);
        int[][] refused = {{2, 0, -1}, {-1, 0, -1}, {0, -1, -2}, {0, 10, -2}, {2, 10, -1}, {0, Integer.MAX_VALUE, -2}};
        for (int[] r : refused) {
            DUE.of("14 refused", x.see(r[0], r[1]), r[2]);
        }
        DUE.of("14 none yet", x.count(1), 0);
        for (int i = 1; i <= 8; i++) {
            DUE.of("14 seen", x.see(i % 2, i % 2 == 0 ? 1 : 2), i);
        }
        DUE.of("14 a ninth", x.see(0, 1), -4);
        DUE.of("14 UNKNOWN ahead of FULL", x.see(2, 1), -1);
        DUE.of("14 OUTSIDE ahead of FULL", x.see(0, 10), -2);
        DUE.of("14 eight", x.count(1), 8);
        DUE.of("14 it is as it was", x.likely(1, true), 2401 * 10000L / gcd());
    }

    /** Kinds weigh 2 * 5^4 * 10^4, 7^4 * 10^4 and 3^4 * 5^4. */
    private static long gcd() {
        long all = 2 * 625 * 10000L + 2401 * 10000L + 81 * 625L;
        long one = 2401 * 10000L;
        while (one != 0) {
            long rest = all % one;
            all = one;
            one = rest;
        }
        return all;
    }

    private static void unsee() {
        UnsoldAtEleven x = Due.townOf(TOWN);
        DUE.of("15 none", x.unsee(), 0);
        x.see(0, 9);
        x.see(1, 9);
        DUE.of("15 two", x.unsee(), 2);
        DUE.of("15 gone", x.count(1), 0);
        likely(x, 0, 1, 2);
        DUE.of("15 seen anew", x.see(0, 2), 1);
    }

    private static void likely(UnsoldAtEleven x, int kind, long above, long below) {
        DUE.fraction("16 likely(" + kind + ")", x.likely(kind, true), x.likely(kind, false), above, below);
    }

    private static void likely() {
        UnsoldAtEleven x = Due.townOf(TOWN);
        likely(x, 0, 1, 2);
        likely(x, 1, 1, 4);
        x.see(0, 2);
        likely(x, 0, 1, 2);
        likely(x, 1, 3, 20);
        likely(x, 2, 7, 20);
        x.see(0, 1);
        likely(x, 0, 25, 46);
        likely(x, 1, 21, 92);
        likely(x, 2, 21, 92);
        x.see(1, 3);
        likely(x, 0, 0, 1);
        likely(x, 1, 0, 1);
        likely(x, 2, 1, 1);
        x.see(1, 1);
        for (int kind = 0; kind < 3; kind++) {
            likely(x, kind, -3, -3);
        }
        likely(x, 3, -1, -1);
        likely(x, -1, -1, -1);
        likely(x, Integer.MAX_VALUE, -1, -1);
        DUE.of("16 it stays seen", x.count(1), 4);
        // b 1 and x 5 weigh five tenths for 1 and for 2, nothing for 0 and 3.
        for (int v = 0; v <= 9; v++) {
            UnsoldAtEleven one = new UnsoldAtEleven();
            one.see(0, v);
            DUE.of("16 seen " + v, one.likely(2, false), v == 1 || v == 2 ? 3 : -3);
        }
    }

    private static void likeliest() {
        UnsoldAtEleven x = Due.townOf(TOWN);
        DUE.of("17 by its share", x.likeliest(), 0);
        x.see(0, 2);
        x.see(0, 2);
        x.see(0, 2);
        DUE.of("17 by what is seen", x.likeliest(), 2);
        x.unsee();
        x.see(0, 1);
        x.see(0, 1);
        x.see(0, 1);
        DUE.of("17 by the ten less x", x.likeliest(), 1);
        x.see(1, 9);
        DUE.of("17 no kind weighs", x.likeliest(), -3);
        DUE.of("17 of like ones the least", new UnsoldAtEleven().likeliest(), 0);
        DUE.of("17 of like ones the least", Due.townOf("N1K12K22").likeliest(), 1);
    }

    private static void ask() {
        DUE.of("18 at one corner", new UnsoldAtEleven().ask(), 0);
        DUE.of("18 three at 0, two at 1", Due.townOf(TOWN).ask(), 0);
        DUE.of("18 three at 1", Due.townOf("N2W1015W1113W1217").ask(), 1);
        DUE.of("18 unlike b alone", Due.townOf("N3W2005W2125").ask(), 2);
        DUE.of("18 unlike x alone", Due.townOf("N3W1016").ask(), 1);
        DUE.of("18 three are more than two", Due.townOf("N3W0016W1116W2016W2117").ask(), 2);
        DUE.of("18 of like ones the least", Due.townOf("N3W1010W2010").ask(), 1);
        // 12 and 21: neither b nor x is like, and not what they make together.
        DUE.of("18 b and x each", Due.townOf("N3W0012W0121W0212W1012W1121W1230").ask(), 1);
    }

    private static void askOfKindsThatWeigh() {
        UnsoldAtEleven x = Due.townOf("N2W0005W1217");
        DUE.of("18 two at both", x.ask(), 0);
        x.see(0, 2);
        DUE.of("18 kind 0 weighs nothing", x.ask(), 1);
        UnsoldAtEleven last = Due.townOf("N2W0205W1117");
        DUE.of("18 two at both", last.ask(), 0);
        last.see(0, 2);
        DUE.of("18 kind 2 weighs nothing", last.ask(), 1);
        x.see(0, 0);
        DUE.of("18 none weighs", x.ask(), -3);
        DUE.of("18 it stays seen", x.unsee(), 2);
    }
}
