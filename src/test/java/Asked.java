import java.util.ArrayList;
import java.util.List;

/** All that an object answers, asked in some 250 calls: two objects that are told the same answer the same. */
final class Asked {
    private final List<String> calls = new ArrayList<>();
    private final List<Long> answers = new ArrayList<>();

    /** The object is not to be used behind it: its text is wiped in the end. */
    static Asked of(UnsoldAtEleven x) {
        Asked asked = new Asked();
        asked.theTown(x);
        asked.cornersApart(x);
        asked.days(x);
        asked.theVan(x);
        asked.theMorning(x);
        asked.setters(x);
        asked.slots(x);
        asked.theText(x);
        return asked;
    }

    /** The first call that is answered otherwise; null: there is none. */
    static String unlike(Asked one, Asked other) {
        for (int i = 0; i < one.answers.size(); i++) {
            if (!one.answers.get(i).equals(other.answers.get(i))) {
                return one.calls.get(i) + " answered " + one.answers.get(i) + ", then " + other.answers.get(i);
            }
        }
        return null;
    }

    private void put(String call, long answer) {
        calls.add(call);
        answers.add(answer);
    }

    private void theTown(UnsoldAtEleven x) {
        put("fault", x.fault());
        for (int what = 0; what <= 3; what++) {
            put("count " + what, x.count(what));
        }
        told(x);
    }

    private void told(UnsoldAtEleven x) {
        for (int what = 0; what <= 9; what++) {
            put("about " + what, x.about(what));
        }
        for (int i = 0; i < 18; i++) {
            put("wants " + i, x.wants(i / 6, i / 2 % 3, i % 2));
        }
    }

    private void cornersApart(UnsoldAtEleven x) {
        for (int corner = 0; corner < 3; corner++) {
            for (int g : new int[] {7, 60}) {
                put("sold " + corner, x.sold(corner, g, true));
                put("sold below " + corner, x.sold(corner, g, false));
            }
            put("out " + corner, x.out(corner, 9, true));
            put("given " + corner, x.given(25, corner));
            put("loss " + corner, x.loss(25, corner, 9, true));
        }
        put("earned", x.earned(25, true));
        put("print", x.print());
    }

    private void days(UnsoldAtEleven x) {
        for (int kind = 0; kind < 3; kind++) {
            put("likely " + kind, x.likely(kind, true));
            put("likely below " + kind, x.likely(kind, false));
        }
        put("likeliest", x.likeliest());
        put("ask", x.ask());
    }

    private void theVan(UnsoldAtEleven x) {
        put("best", x.best(1, 0, 203, 2, 4, true));
        put("best below", x.best(1, 0, 203, 2, 4, false));
        put("now", x.now(1, 0, 203, 2, 4));
    }

    private void theMorning(UnsoldAtEleven x) {
        for (int i = 0; i < 72; i++) {
            put("morning " + i, x.morning(i / 24, i / 4 % 6, i % 4));
        }
        for (int what = 0; what <= 4; what++) {
            put("ended " + what, x.ended(what));
        }
        for (int corner = 0; corner < 3; corner++) {
            put("ranOut " + corner, x.ranOut(corner));
            put("habit " + corner, x.habit(corner));
            put("second " + corner, x.second(corner, 2, 5, 1));
            put("paid " + corner, x.paid(corner, 5, 5));
            put("leastPay " + corner, x.leastPay(corner, 6, 60));
        }
    }

    /** What is told of the morning is read by telling it otherwise, and told again. */
    private void setters(UnsoldAtEleven x) {
        int kind = x.day(0);
        put("day", kind);
        x.day(kind);
        for (int corner = 0; corner < 3; corner++) {
            int gives = x.gives(corner, 1);
            put("gives " + corner, gives);
            x.gives(corner, gives);
            int bits = x.more(corner, 1);
            put("more " + corner, bits);
            x.more(corner, bits);
        }
    }

    private void slots(UnsoldAtEleven x) {
        for (int slot = 0; slot < 2; slot++) {
            put("again " + slot, x.again(slot));
            for (int what = 0; what <= 4; what++) {
                put("ended " + what + " again " + slot, x.ended(what));
            }
            for (int corner = 0; corner < 3; corner++) {
                put("habit again " + slot, x.habit(corner));
                put("more again " + slot, x.more(corner, 0));
                put("gives again " + slot, x.gives(corner, 0));
            }
            put("van again " + slot, x.van(0, 0, 0));
            put("unorder again " + slot, x.unorder());
        }
        put("unsee", x.unsee());
    }

    private void theText(UnsoldAtEleven x) {
        put("town", x.town());
        told(x);
        put("wipe", x.wipe());
    }
}
