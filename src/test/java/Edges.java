import java.util.Arrays;

/** What is asked at the edges: the last numbers taken, the first refused, and that refused calls change nothing. */
final class Edges {
    /** 64 bytes, 17 parts: the text can take no more. */
    static final String WHOLE = "N3K02K13K25G01G12G20C12P25R04W0015W0113W0217W1020W1120W1225W2009";

    private static final int[] FAR = {Integer.MIN_VALUE, Integer.MIN_VALUE + 1, -65536, -256, -9, -4, -3, -2, -1, 256, 65536,
        Integer.MAX_VALUE - 1, Integer.MAX_VALUE};

    private final Due due;

    Edges(Due due) {
        this.due = due;
    }

    interface Made {
        UnsoldAtEleven make();
    }

    interface Call {
        long on(UnsoldAtEleven x);
    }

    interface CallOf {
        long on(UnsoldAtEleven x, int number);
    }

    interface CallOfAll {
        long on(UnsoldAtEleven x, int[] numbers);
    }

    /** Everything is full or told: 64 bytes, eight seen, six orders; slot 0 is kept otherwise, slot 1 is not. */
    static UnsoldAtEleven full() {
        UnsoldAtEleven x = Due.townOf(WHOLE);
        x.day(1);
        x.gives(0, 4);
        x.gives(2, 9);
        x.more(2, 33);
        x.van(20, 1, 2);
        for (int i = 0; i < 8; i++) {
            x.see(0, 1 + i % 2);
        }
        for (int i = 0; i < 6; i++) {
            x.order(5 - i, i % 3, 1 + i % 2);
        }
        x.days(2);
        x.keep(0);
        x.day(2);
        x.gives(1, 3);
        x.more(0, 5);
        x.van(30, 2, 4);
        x.unorder();
        for (int i = 0; i < 6; i++) {
            x.order(i, 2 - i / 2, 3 + i);
        }
        x.days(1);
        return x;
    }

    /** As full(), but for the text, which is not at its end, and for what is seen: no kind weighs anything. */
    static UnsoldAtEleven broken() {
        UnsoldAtEleven x = full();
        x.wipe();
        Due.write(x, "N2K");
        x.unsee();
        x.see(0, 9);
        return x;
    }

    void taken(String call, Made made, Call c, long want) {
        due.of(call, c.on(made.make()), want);
    }

    void refused(String call, Made made, Call c, long want) {
        UnsoldAtEleven x = made.make();
        long got = c.on(x);
        due.of(call, got, want);
        String unlike = Asked.unlike(Asked.of(made.make()), Asked.of(x));
        due.of(call + " is refused and changes nothing: " + unlike, unlike == null ? 0 : 1, 0);
    }

    /** From least to most the call answers, and by all numbers beyond it refuses. */
    void range(String call, Made made, int least, int most, long refusal, CallOf c) {
        for (int number = least; number <= most; number++) {
            long got = c.on(made.make(), number);
            due.of(call + " takes " + number + " (" + got + ")", got >= 0 || got == -9 ? 1 : 0, 1);
        }
        for (int far : FAR) {
            if (far < least || far > most) {
                outOfRange(call, made, far, refusal, c);
            }
        }
        outOfRange(call, made, least - 1, refusal, c);
        outOfRange(call, made, most + 1, refusal, c);
    }

    private void outOfRange(String call, Made made, int number, long refusal, CallOf c) {
        refused(call + " by " + number, made, x -> c.on(x, number), refusal);
    }

    /** There are so many corners in the towns of one, two and three. */
    void corners(String call, long refusal, CallOf c) {
        for (int n = 1; n <= 3; n++) {
            String text = "N" + n;
            range(call + " of " + n + " corners", () -> Due.townOf(text), 0, n - 1, refusal, c);
        }
    }

    /**
     * Of several refusals the first: every number is as it should be or one of its bad ones, which bear a code each;
     * if all are as they should be, the rest is due (0: the call is taken).
     */
    void first(String call, Made made, int[] good, int[][] bad, int[] codes, long rest, CallOfAll c) {
        int all = 1;
        for (int[] some : bad) {
            all *= 1 + some.length;
        }
        for (int way = 0; way < all; way++) {
            int[] numbers = good.clone();
            long want = rest == 0 ? Long.MIN_VALUE : rest;
            int at = way;
            for (int i = 0; i < good.length; i++) {
                int which = at % (1 + bad[i].length);
                at /= 1 + bad[i].length;
                if (which > 0) {
                    numbers[i] = bad[i][which - 1];
                    want = Math.max(want, codes[i]);
                }
            }
            if (want != Long.MIN_VALUE) {
                refused(call + Arrays.toString(numbers), made, x -> c.on(x, numbers), want);
            } else {
                long got = c.on(made.make(), numbers);
                due.of(call + " is taken (" + got + ")", got >= 0 || got == -9 ? 1 : 0, 1);
            }
        }
    }
}
