/** The boundary cases of promises 35 to 37, sentence by sentence. */
public final class SlotsEdgesTest {
    private static final Due DUE = new Due();
    private static final Edges EDGES = new Edges(DUE);

    public static void main(String[] args) {
        keepRefuses();
        keepOfNoneAndOfAll();
        keepChangesNothing();
        againRefuses();
        againRefusesWhatWasNotKept();
        againOfBothSlots();
        againBringsAllThatIsTold();
        againBringsHabits();
        keptIsGoneWithANewTown();
        keptStaysWithARefusedTown();
        countRefuses();
        countOfNoneAndOfAll();
        DUE.end();
    }

    private static UnsoldAtEleven bothKept() {
        UnsoldAtEleven x = Edges.full();
        x.keep(1);
        return x;
    }

    private static void keepRefuses() {
        EDGES.range("35 keep", Edges::full, 0, 1, -1, (x, slot) -> x.keep(slot));
        EDGES.range("35 keep", UnsoldAtEleven::new, 0, 1, -1, (x, slot) -> x.keep(slot));
    }

    private static void keepOfNoneAndOfAll() {
        UnsoldAtEleven x = Due.townOf("N3");
        DUE.of("35 none", x.keep(0), 0);
        for (int corner = 0; corner < 3; corner++) {
            x.gives(corner, 60);
        }
        DUE.of("35 all", x.keep(1), 180);
        DUE.of("36 none", x.again(0), 0);
        DUE.of("36 all", x.again(1), 180);
        DUE.of("36 all", x.count(3), 180);
        // What the van has is not given out by corners.
        x.van(60, 2, 0);
        DUE.of("35 but the van's", x.keep(0), 180);
        DUE.of("37 but the van's", x.count(3), 180);
    }

    private static void keepChangesNothing() {
        UnsoldAtEleven x = Edges.full();
        UnsoldAtEleven y = Edges.full();
        x.keep(1);
        x.keep(0);
        y.keep(0);
        y.keep(1);
        String unlike = Asked.unlike(Asked.of(x), Asked.of(y));
        DUE.of("35 nothing is changed: " + unlike, unlike == null ? 0 : 1, 0);
    }

    private static void againRefuses() {
        EDGES.range("36 again", SlotsEdgesTest::bothKept, 0, 1, -1, (x, slot) -> x.again(slot));
        for (int slot : new int[] {2, -1, Integer.MIN_VALUE, Integer.MAX_VALUE}) {
            EDGES.refused("36 UNKNOWN, none was kept", UnsoldAtEleven::new, x -> x.again(slot), -1);
        }
    }

    private static void againRefusesWhatWasNotKept() {
        EDGES.refused("36 none was kept", UnsoldAtEleven::new, x -> x.again(0), -3);
        EDGES.refused("36 none was kept", UnsoldAtEleven::new, x -> x.again(1), -3);
        EDGES.refused("36 none was kept in 1", Edges::full, x -> x.again(1), -3);
        EDGES.taken("36 one was in 0", Edges::full, x -> x.again(0), 13);
        UnsoldAtEleven x = new UnsoldAtEleven();
        x.keep(1);
        DUE.of("36 none was kept in 0", x.again(0), -3);
        DUE.of("36 one was in 1", x.again(1), 0);
    }

    private static void againOfBothSlots() {
        UnsoldAtEleven x = bothKept();
        for (int i = 0; i < 3; i++) {
            DUE.of("36 slot 0", x.again(0), 13);
            DUE.of("36 its kind", x.day(0), 1);
            DUE.of("36 slot 1", x.again(1), 16);
            DUE.of("36 its kind", x.day(0), 2);
            DUE.of("36 its orders", x.unorder(), 6);
            x.gives(2, 60);
        }
        x.again(0);
        DUE.of("35 the one in the other's slot", x.keep(1), 13);
        DUE.of("36 it is gone", x.again(1), 13);
    }

    /** Told as it was kept in 0, then otherwise, as in Edges.full(). */
    private static void againBringsAllThatIsTold() {
        UnsoldAtEleven x = bothKept();
        int[][] due = {{1, 20, 0, 0, 33, 4, 0, 9}, {2, 30, 5, 0, 33, 4, 3, 9}};
        for (int slot : new int[] {1, 0, 1}) {
            x.again(slot);
            DUE.of("36 kind", x.day(0), due[slot][0]);
            DUE.of("36 van", x.van(0, 0, 0), due[slot][1]);
            for (int corner = 0; corner < 3; corner++) {
                DUE.of("36 bits of " + corner, x.more(corner, 63), due[slot][2 + corner]);
                DUE.of("36 papers of " + corner, x.gives(corner, 60), due[slot][5 + corner]);
            }
            DUE.of("36 orders", x.unorder(), 6);
        }
        UnsoldAtEleven y = Due.townOf("N3W0000W1000W2000");
        y.van(50, 1, 2);
        y.order(3, 1, 7);
        y.keep(0);
        y.unorder();
        y.order(5, 2, 20);
        y.van(9, 2, 4);
        y.keep(1);
        y.unorder();
        y.van(0, 0, 0);
        for (int i = 0; i < 2; i++) {
            y.again(0);
            DUE.of("36 two by ringing", y.morning(2, 5, 0), 2);
            DUE.of("36 not ahead of 3", y.morning(1, 2, 0), 2);
            DUE.of("36 seven by an order", y.morning(1, 3, 0), 9);
            DUE.of("36 in the van", y.ended(2), 37);
            y.again(1);
            DUE.of("36 not ahead of 4", y.morning(2, 3, 0), 0);
            DUE.of("36 three by sharing", y.morning(2, 4, 0), 3);
            DUE.of("36 none is left to order", y.morning(2, 5, 0), 3);
            DUE.of("36 none in the van", y.ended(2), 0);
        }
    }

    private static void againBringsHabits() {
        UnsoldAtEleven x = Due.townOf("N2W0030");
        x.gives(1, 60);
        x.days(30);
        x.keep(0);
        x.gives(0, 60);
        x.gives(1, 0);
        x.days(30);
        DUE.of("30 nine", x.habit(0), 9);
        x.again(0);
        DUE.of("36 habit 0", x.habit(0), 0);
        DUE.of("36 habit 9", x.habit(1), 9);
        DUE.of("36 papers", x.gives(0, 0), 0);
    }

    private static void keptIsGoneWithANewTown() {
        UnsoldAtEleven x = bothKept();
        DUE.of("5 town", x.town(), 17);
        DUE.of("5 kept is gone", x.again(0), -3);
        DUE.of("5 kept is gone", x.again(1), -3);
        DUE.of("5 kept anew", x.keep(1), 0);
        DUE.of("5 the other is not", x.again(0), -3);
    }

    private static void keptStaysWithARefusedTown() {
        UnsoldAtEleven x = bothKept();
        x.wipe();
        DUE.of("5 refused", x.town(), -3);
        DUE.of("36 slot 0", x.again(0), 13);
        DUE.of("36 slot 1", x.again(1), 16);
    }

    private static void countRefuses() {
        EDGES.range("37 count", Edges::full, 0, 3, -2, (x, what) -> x.count(what));
        EDGES.range("37 count", UnsoldAtEleven::new, 0, 3, -2, (x, what) -> x.count(what));
    }

    private static void countOfNoneAndOfAll() {
        UnsoldAtEleven none = new UnsoldAtEleven();
        UnsoldAtEleven all = Edges.full();
        int[] most = {64, 8, 6, 16};
        for (int what = 0; what <= 3; what++) {
            DUE.of("37 none of " + what, none.count(what), 0);
            DUE.of("37 all of " + what, all.count(what), most[what]);
        }
        all.wipe();
        all.unsee();
        all.unorder();
        for (int corner = 0; corner < 3; corner++) {
            all.gives(corner, 0);
        }
        for (int what = 0; what <= 3; what++) {
            DUE.of("37 gone of " + what, all.count(what), 0);
        }
    }
}
