/** What a test asks of a call: counts and prints the answers that are not the ones that are due. */
final class Due {
    private int asked = 0;
    private int wrong = 0;

    void of(String call, long got, long want) {
        asked++;
        if (got != want) {
            wrong++;
            System.out.println(call + " answered " + got + ", due is " + want);
        }
    }

    void fraction(String call, long upper, long lower, long wantUpper, long wantLower) {
        of(call + " above", upper, wantUpper);
        of(call + " below", lower, wantLower);
    }

    boolean isWrong() {
        return wrong > 0;
    }

    void end() {
        System.out.println(asked + " answers, " + wrong + " not as due");
        if (wrong != 0 || asked == 0) {
            System.exit(1);
        }
    }

    static UnsoldAtEleven townOf(String text) {
        UnsoldAtEleven x = new UnsoldAtEleven();
        write(x, text);
        if (x.town() < 1) {
            throw new IllegalStateException("no town: " + text);
        }
        return x;
    }

    static void write(UnsoldAtEleven x, String text) {
        for (int from = 0; from < text.length(); from += 8) {
            String some = text.substring(from, Math.min(from + 8, text.length()));
            long v = 0;
            for (int i = 0; i < some.length(); i++) {
                v = v << 8 | some.charAt(i);
            }
            x.write(some.length(), v);
        }
    }

    /** Where the fault of a text is that a new object is told. */
    static int faultOf(String text) {
        UnsoldAtEleven x = new UnsoldAtEleven();
        write(x, text);
        return x.fault();
    }
}
