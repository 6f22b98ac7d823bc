/** Promises 35 to 37: a morning kept and gone on from, and what is counted. */
public final class SlotsTest {
    private static final Due DUE = new Due();

    public static void main(String[] args) {
        keepRefuses();
        againBringsAll();
        keptStaysAsItWas();
        theRuleIsKept();
        slotsAreApart();
        againLeavesTheRest();
        count();
        DUE.end();
    }

    private static UnsoldAtEleven told() {
        UnsoldAtEleven x = Due.townOf("N3W0020W1010W0130W2100G01");
        x.day(1);
        x.gives(0, 4);
        x.gives(1, 0);
        x.gives(2, 5);
        x.more(2, 33);
        x.van(11, 1, 2);
        x.order(3, 2, 4);
        x.order(1, 1, 1);
        x.days(2);
        return x;
    }

    /** All that is told of the morning; it is told otherwise by this. */
    private static int[] tellOtherwise(UnsoldAtEleven x) {
        int[] was = new int[18];
        for (int what = 0; what <= 4; what++) {
            was[what] = x.ended(what);
        }
        for (int corner = 0; corner < 3; corner++) {
            was[5 + corner] = x.habit(corner);
            was[8 + corner] = x.morning(corner, 3, 0);
            was[11 + corner] = x.gives(corner, 10 + corner);
            was[14 + corner] = x.more(corner, 5);
        }
        was[17] = x.unorder() * 10000 + x.van(3, 2, 1) * 100 + x.day(2);
        x.order(4, 0, 7);
        x.days(1);
        return was;
    }

    private static void same(String what, int[] got, int[] due) {
        for (int i = 0; i < due.length; i++) {
            DUE.of(what + " " + i, got[i], due[i]);
        }
    }

    private static void keepRefuses() {
        UnsoldAtEleven x = told();
        for (int slot : new int[] {2, -1, Integer.MIN_VALUE, Integer.MAX_VALUE}) {
            DUE.of("35 refused", x.keep(slot), -1);
            DUE.of("36 refused", x.again(slot), -1);
        }
        DUE.of("36 none was kept", x.again(0), -3);
        DUE.of("36 none was kept", x.again(1), -3);
        DUE.of("36 it is as it was", x.count(3), 9);
        DUE.of("35 papers given out", x.keep(1), 9);
        DUE.of("36 none was kept", x.again(0), -3);
    }

    private static void againBringsAll() {
        int[] due = tellOtherwise(told());
        UnsoldAtEleven x = told();
        DUE.of("35 keep", x.keep(0), 9);
        same("35 nothing is changed", tellOtherwise(x), due);
        DUE.of("37 otherwise", x.count(3), 33);
        DUE.of("36 again", x.again(0), 9);
        same("36 as it was kept", tellOtherwise(x), due);
    }

    private static void keptStaysAsItWas() {
        int[] due = tellOtherwise(told());
        UnsoldAtEleven x = told();
        x.keep(0);
        for (int i = 0; i < 3; i++) {
            DUE.of("36 again", x.again(0), 9);
            same("36 as often as it is asked", tellOtherwise(x), due);
        }
        x.keep(0);
        DUE.of("36 kept anew", x.again(0), 33);
    }

    private static void theRuleIsKept() {
        UnsoldAtEleven x = Due.townOf("N1W0000");
        x.van(9, 2, 3);
        x.keep(0);
        x.van(9, 2, 1);
        x.keep(1);
        x.again(0);
        DUE.of("36 not yet", x.morning(0, 2, 0), 0);
        DUE.of("36 in half hour 3", x.morning(0, 3, 0), 9);
        x.again(1);
        DUE.of("36 in half hour 1", x.morning(0, 1, 0), 9);
        x.van(9, 1, 4);
        x.keep(1);
        x.van(9, 1, 6);
        x.again(1);
        DUE.of("36 four by ringing", x.morning(0, 1, 0), 4);
    }

    private static void slotsAreApart() {
        UnsoldAtEleven x = told();
        x.keep(0);
        x.gives(0, 60);
        DUE.of("35 keep(1)", x.keep(1), 65);
        DUE.of("36 again(0)", x.again(0), 9);
        DUE.of("36 again(1)", x.again(1), 65);
        DUE.of("36 gives", x.gives(0, 0), 60);
    }

    private static void againLeavesTheRest() {
        UnsoldAtEleven x = told();
        x.keep(0);
        x.see(0, 2);
        x.wipe();
        x.write(1, 'N');
        x.again(0);
        DUE.of("36 seen stays", x.count(1), 1);
        DUE.of("36 the text stays", x.count(0), 1);
        DUE.of("36 the town stays", x.about(0), 3);
    }

    private static void count() {
        UnsoldAtEleven x = told();
        x.see(0, 2);
        x.see(0, 9);
        x.see(1, 9);
        int[] due = {25, 3, 2, 9};
        for (int what = 0; what <= 3; what++) {
            DUE.of("37 count(" + what + ")", x.count(what), due[what]);
        }
        for (int what : new int[] {4, -1, Integer.MIN_VALUE, Integer.MAX_VALUE}) {
            DUE.of("37 refused", x.count(what), -2);
        }
    }
}
