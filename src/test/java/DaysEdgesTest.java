/** The boundary cases of promises 14 to 18, sentence by sentence. */
public final class DaysEdgesTest {
    private static final Due DUE = new Due();
    private static final Edges EDGES = new Edges(DUE);

    public static void main(String[] args) {
        seeRefuses();
        seeTakesEight();
        seeRefusesFullLast();
        unseeOfNoneAndOfEight();
        seenIsGoneWithANewTown();
        likelyRefuses();
        likelyOfLeastAndMostTenths();
        likelyIsNothingButForBAndOneMore();
        likelyByLeastAndGreatestShares();
        likelyByEachCorner();
        likelyInLeastTerms();
        likeliestRefuses();
        likeliestOfLikeOnesTheLeast();
        likeliestOfThoseThatWeigh();
        askRefuses();
        askOfLikeOnesTheLeast();
        askOfOneCorner();
        askOfOneKindThatWeighs();
        DUE.end();
    }

    private static UnsoldAtEleven noneWeighs() {
        UnsoldAtEleven x = Edges.full();
        x.unsee();
        x.see(2, 9);
        return x;
    }

    private static UnsoldAtEleven sevenSeen() {
        UnsoldAtEleven x = Due.townOf("N3");
        for (int i = 0; i < 7; i++) {
            x.see(i % 3, 1);
        }
        return x;
    }

    private static void seeRefuses() {
        EDGES.corners("14 see", -1, (x, corner) -> x.see(corner, 0));
        EDGES.range("14 see", () -> Due.townOf("N3"), 0, 9, -2, (x, v) -> x.see(2, v));
        EDGES.range("14 see an eighth", DaysEdgesTest::sevenSeen, 0, 9, -2, (x, v) -> x.see(2, v));
    }

    private static void seeTakesEight() {
        UnsoldAtEleven x = Due.townOf("N3");
        for (int i = 1; i <= 8; i++) {
            DUE.of("14 see", x.see(i % 3, i % 2 * 9), i);
            DUE.of("14 such", x.count(1), i);
        }
        DUE.of("14 full", x.see(0, 1), -4);
        EDGES.taken("14 the eighth", DaysEdgesTest::sevenSeen, y -> y.see(2, 9), 8);
        EDGES.refused("14 the ninth", Edges::full, y -> y.see(0, 0), -4);
        EDGES.refused("14 the ninth", Edges::full, y -> y.see(2, 9), -4);
    }

    private static void seeRefusesFullLast() {
        EDGES.first("14 see", Edges::full, new int[] {2, 9},
                new int[][] {{3, -1, Integer.MIN_VALUE}, {10, -1, Integer.MAX_VALUE}}, new int[] {-1, -2}, -4, (x, of) -> x.see(of[0], of[1]));
        EDGES.first("14 see", DaysEdgesTest::sevenSeen, new int[] {2, 9}, new int[][] {{3, -1}, {10, -1}},
                new int[] {-1, -2}, 0, (x, of) -> x.see(of[0], of[1]));
    }

    private static void unseeOfNoneAndOfEight() {
        UnsoldAtEleven x = Edges.full();
        DUE.of("15 eight", x.unsee(), 8);
        DUE.of("15 none", x.unsee(), 0);
        DUE.of("15 none", x.count(1), 0);
        DUE.of("15 the shares alone weigh", x.likely(2, true), 1);
        DUE.of("15 the shares alone weigh", x.likely(2, false), 2);
        for (int i = 1; i <= 8; i++) {
            DUE.of("15 eight again", x.see(0, 1), i);
        }
        DUE.of("15 full again", x.see(0, 1), -4);
        DUE.of("15 of a new one", new UnsoldAtEleven().unsee(), 0);
        DUE.of("15 from a state", noneWeighs().unsee(), 1);
        UnsoldAtEleven state = noneWeighs();
        state.unsee();
        DUE.of("15 the state is gone", state.likeliest(), 2);
    }

    private static void seenIsGoneWithANewTown() {
        UnsoldAtEleven x = Edges.full();
        x.town();
        DUE.of("5 seen is gone", x.count(1), 0);
        DUE.of("5 seen is gone", x.unsee(), 0);
        DUE.of("5 the first again", x.see(0, 1), 1);
    }

    private static void likelyRefuses() {
        for (boolean upper : new boolean[] {true, false}) {
            EDGES.range("16 likely", Edges::full, 0, 2, -1, (x, kind) -> x.likely(kind, upper));
            EDGES.range("16 likely", UnsoldAtEleven::new, 0, 2, -1, (x, kind) -> x.likely(kind, upper));
            EDGES.first("16 likely", DaysEdgesTest::noneWeighs, new int[] {2},
                    new int[][] {{3, -1, Integer.MIN_VALUE, Integer.MAX_VALUE}}, new int[] {-1}, -3,
                    (x, of) -> x.likely(of[0], upper));
            EDGES.refused("16 likely", Edges::broken, x -> x.likely(0, upper), -3);
        }
    }

    private static void likely(UnsoldAtEleven x, int kind, long above, long below) {
        DUE.fraction("16 likely(" + kind + ")", x.likely(kind, true), x.likely(kind, false), above, below);
    }

    /** Each of these is 10 times a corner, and how many came to it. */
    private static UnsoldAtEleven seen(String town, int... came) {
        UnsoldAtEleven x = Due.townOf(town);
        for (int some : came) {
            x.see(some / 10, some % 10);
        }
        return x;
    }

    private static void likelyOfLeastAndMostTenths() {
        String town = "N1W0010W0119W0215";
        UnsoldAtEleven few = seen(town, 1);
        likely(few, 0, 5, 8);
        likely(few, 1, 1, 16);
        likely(few, 2, 5, 16);
        UnsoldAtEleven many = seen(town, 2);
        likely(many, 0, 0, 1);
        likely(many, 1, 9, 14);
        likely(many, 2, 5, 14);
        // Kind 0 alone could have been told apart by one: x is 0 there, so one more never comes.
        likely(seen("N1W0010W0110W0220", 2), 2, 1, 1);
        likely(seen("N1W0010W0110W0220", 2), 0, 0, 1);
    }

    private static void likelyIsNothingButForBAndOneMore() {
        for (int b = 0; b <= 3; b++) {
            String town = "N1W00" + b + "4W01" + b + "4W02" + b + "4";
            for (int v = 0; v <= 9; v++) {
                likely(seen(town, v), 1, v == b || v == b + 1 ? 1 : -3, v == b || v == b + 1 ? 3 : -3);
            }
        }
    }

    private static void likelyByLeastAndGreatestShares() {
        int[] eight = new int[8];
        String same = "N1K09K19K29W0000W0100W0200";
        likely(Due.townOf(same), 2, 1, 3);
        // Nine, and ten to the eighth, of each.
        likely(seen(same, eight), 2, 1, 3);
        likely(Due.townOf("N1K01K19K29"), 0, 1, 19);
        likely(Due.townOf("N1K01K19K29"), 2, 9, 19);
        // 9 by 10 to the eighth, 1, and 7 to the eighth: nothing is lost of the least or of the greatest.
        UnsoldAtEleven apart = seen("N1K09W0000W0109W0203", eight);
        likely(apart, 0, 450000000, 452882401);
        likely(apart, 1, 1, 905764802);
        likely(apart, 2, 5764801, 905764802);
    }

    private static void likelyByEachCorner() {
        String town = "N3W0030W1020W2019";
        // Two came to a corner: at 0 kind 0 weighs nothing, at 1 it weighs ten, at 2 nine; the others weigh five each.
        likely(seen(town, 2), 0, 0, 1);
        likely(seen(town, 12), 0, 1, 2);
        likely(seen(town, 22), 0, 9, 19);
        likely(seen(town, 12, 22), 0, 9, 14);
        likely(seen(town, 2, 12, 22), 0, 0, 1);
    }

    private static void likelyInLeastTerms() {
        likely(Due.townOf("N1K02K14K26"), 0, 1, 6);
        likely(Due.townOf("N1K02K14K26"), 1, 1, 3);
        likely(Due.townOf("N1K02K14K26"), 2, 1, 2);
        likely(seen("N1K02W0012W0114W0218", 2), 0, 1, 4);
    }

    private static void likeliestRefuses() {
        EDGES.refused("17 likeliest", DaysEdgesTest::noneWeighs, x -> x.likeliest(), -3);
        EDGES.refused("17 likeliest", Edges::broken, x -> x.likeliest(), -3);
        EDGES.taken("17 of eight", Edges::full, x -> x.likeliest(), 2);
        EDGES.taken("17 of none", () -> Due.townOf("N3"), x -> x.likeliest(), 0);
    }

    private static void likeliestOfLikeOnesTheLeast() {
        DUE.of("17 all three", new UnsoldAtEleven().likeliest(), 0);
        DUE.of("17 0 and 1", Due.townOf("N1K09K19").likeliest(), 0);
        DUE.of("17 0 and 2", Due.townOf("N1K09K29").likeliest(), 0);
        DUE.of("17 1 and 2", Due.townOf("N1K19K29").likeliest(), 1);
        DUE.of("17 2 alone", Due.townOf("N1K18K29").likeliest(), 2);
        DUE.of("17 1 alone", Due.townOf("N1K19K28").likeliest(), 1);
        // 2 by 3, and 3 by 2.
        DUE.of("17 like by another way", seen("N1K02K13W0013W0112W0210", 2).likeliest(), 0);
        DUE.of("17 like by another way", seen("N1K12K23W0010W0113W0212", 2).likeliest(), 1);
    }

    private static void likeliestOfThoseThatWeigh() {
        DUE.of("17 kind 0 weighs nothing", seen("N1K09W0030", 1).likeliest(), 1);
        DUE.of("17 kind 2 alone weighs", seen("N1K09K19W0030W0130", 1).likeliest(), 2);
    }

    private static void askRefuses() {
        EDGES.refused("18 ask", DaysEdgesTest::noneWeighs, x -> x.ask(), -3);
        EDGES.refused("18 ask", Edges::broken, x -> x.ask(), -3);
        EDGES.taken("18 of eight", Edges::full, x -> x.ask(), 0);
        EDGES.taken("18 of none", () -> Due.townOf("N3"), x -> x.ask(), 0);
    }

    private static void askOfLikeOnesTheLeast() {
        DUE.of("18 no unlike ones", Due.townOf("N3").ask(), 0);
        DUE.of("18 two at all three", Due.townOf("N3W0014W1014W2014").ask(), 0);
        DUE.of("18 three at all three", Due.townOf("N3W0014W0113W1014W1113W2014W2113").ask(), 0);
        DUE.of("18 two at 1 and at 2", Due.townOf("N3W1014W2114").ask(), 1);
        DUE.of("18 three at 1 and at 2", Due.townOf("N3W1014W1113W2014W2113").ask(), 1);
        DUE.of("18 two at 0 and 1, three at 2", Due.townOf("N3W0014W1014W2014W2113").ask(), 2);
        DUE.of("18 three at 1, two at 2", Due.townOf("N3W1014W1213W2014").ask(), 1);
    }

    private static void askOfOneCorner() {
        DUE.of("18 of one corner", Due.townOf("N1W0014W0113").ask(), 0);
    }

    private static void askOfOneKindThatWeighs() {
        // Three came to 0, where b is 2 on kind 0 alone: nowhere is one kind unlike itself.
        DUE.of("18 one kind alone weighs", seen("N3W0025W1014W1113W2014", 3).ask(), 0);
        // Kind 0 weighs nothing: to be like it is nothing.
        DUE.of("18 kinds 1 and 2 weigh", seen("N2W0005W1217", 2).ask(), 1);
        DUE.of("18 kinds 0 and 2 weigh", seen("N2W0105W1217", 2).ask(), 1);
        DUE.of("18 kinds 0 and 1 weigh", seen("N2W0205W1117", 2).ask(), 1);
        DUE.of("18 two kinds weigh", seen("N3W0025W0125W1114W2014W2113", 3).ask(), 1);
    }
}
