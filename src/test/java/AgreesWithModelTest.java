import java.util.ArrayList;
import java.util.Collections;
import java.util.List;
import java.util.Random;

/** Runs of calls, told by a seed, on the program and on the model; every answer must be the same. */
public final class AgreesWithModelTest {
    private static final int RUNS = 60;
    private static final int[] FAR = {Integer.MIN_VALUE, Integer.MAX_VALUE, -1, -10, 1000000, 64, 61, 1301};

    private final Due due = new Due();
    private Random random;
    private UnsoldAtEleven x;
    private Model y;
    private String told;

    public static void main(String[] args) {
        int runs = args.length > 0 ? Integer.parseInt(args[0]) : RUNS;
        int first = args.length > 1 ? Integer.parseInt(args[1]) : 0;
        AgreesWithModelTest test = new AgreesWithModelTest();
        for (int seed = first; seed < first + runs && !test.due.isWrong(); seed++) {
            test.run(seed);
        }
        test.due.end();
    }

    private void run(int seed) {
        random = new Random(seed);
        x = new UnsoldAtEleven();
        y = new Model();
        int calls = 0;
        if (seed % 8 != 0) {
            calls += write(town());
            due.of("seed " + seed + " town()", x.town(), y.town());
        }
        for (; calls < 480 && !due.isWrong(); calls++) {
            if (random.nextInt(60) == 0) {
                due.of("seed " + seed + " wipe()", x.wipe(), y.wipe());
                calls += write(random.nextInt(3) == 0 ? spoiled(town()) : town());
                call(0);
                call(1);
            }
            call(random.nextInt(40));
            if (due.isWrong()) {
                System.out.println("seed " + seed + ", call " + calls + ": " + told);
            }
        }
    }

    private int write(String text) {
        Model known = y;
        int calls = 0;
        for (int from = 0; from < text.length(); calls++) {
            int n = Math.min(text.length() - from, 1 + random.nextInt(8));
            long v = random.nextLong();
            for (int i = from; i < from + n; i++) {
                v = v << 8 | text.charAt(i);
            }
            due.of("write " + text, x.write(n, v), known.write(n, v));
            from += n;
        }
        return calls + 3;
    }

    private String town() {
        int n = 1 + random.nextInt(3);
        List<String> parts = new ArrayList<>();
        boolean few = random.nextBoolean();
        for (int k = 0; k < 3; k++) {
            parts.add("K" + k + (1 + random.nextInt(few ? 3 : 9)));
            for (int c = 0; c < n; c++) {
                parts.add("W" + c + k + (few ? random.nextInt(2) : random.nextInt(4))
                        + (few ? 5 * random.nextInt(2) : random.nextInt(10)));
            }
        }
        for (int c = 0; c < n && n > 1; c++) {
            parts.add("G" + c + (c + 1 + random.nextInt(n - 1)) % n);
        }
        for (String letter : new String[] {"C", "P", "R"}) {
            parts.add(letter + random.nextInt(10) + random.nextInt(10));
        }
        Collections.shuffle(parts, random);
        StringBuilder text = new StringBuilder("N" + n);
        for (String part : parts) {
            if (random.nextInt(4) != 0 && text.length() + part.length() <= 64) {
                text.append(part);
            }
        }
        return text.toString();
    }

    private String spoiled(String text) {
        StringBuilder s = new StringBuilder(text);
        switch (random.nextInt(3)) {
            case 0:
                s.setCharAt(random.nextInt(s.length()), "NKWGCPR0123456789\0\u00ff:/".charAt(random.nextInt(21)));
                break;
            case 1:
                s.setLength(random.nextInt(s.length()));
                break;
            default:
                int from = random.nextInt(s.length());
                s.append(s.substring(from));
                s.setLength(Math.min(s.length(), 64));
        }
        return s.toString();
    }

    private int some(int least, int most) {
        int way = random.nextInt(24);
        if (way == 0) {
            return FAR[random.nextInt(FAR.length)];
        }
        return way == 1 ? (random.nextBoolean() ? least - 1 : most + 1) : least + random.nextInt(most - least + 1);
    }

    private int corner() {
        int n = y.about(0);
        return random.nextInt(10) == 0 ? some(0, 2) : random.nextInt(n);
    }

    private int corners() {
        return random.nextInt(12) == 0 ? some(0, 33) : 10 * corner() + corner();
    }

    private int papers() {
        return random.nextInt(12) == 0 ? some(0, 1212) : 100 * random.nextInt(6) + random.nextInt(6);
    }

    private void same(String call, long got, long want) {
        told = call;
        due.of(call, got, want);
    }

    private void call(int which) {
        int a = corner(), p = some(0, 60), k = some(0, 2), h = some(0, 5), v;
        boolean upper = random.nextBoolean();
        switch (which) {
            case 0: same("fault()", x.fault(), y.fault()); break;
            case 1: same("town()", x.town(), y.town()); break;
            case 2: v = some(0, 1); same("wants " + a + " " + k + " " + v, x.wants(a, k, v), y.wants(a, k, v)); break;
            case 3: v = some(0, 9); same("about " + v, x.about(v), y.about(v)); break;
            case 4: v = some(0, 30); same("sold " + a + " " + v, x.sold(a, v, upper), y.sold(a, v, upper)); break;
            case 5: v = some(0, 30); same("out " + a + " " + v, x.out(a, v, upper), y.out(a, v, upper)); break;
            case 6: same("given " + p + " " + a, x.given(p, a), y.given(p, a)); break;
            case 7: same("earned " + p, x.earned(p, upper), y.earned(p, upper)); break;
            case 8: if (random.nextInt(10) == 0) { same("print", x.print(), y.print()); } break;
            case 9: v = some(0, Math.max(0, Math.min(60, p)));
                same("loss " + p + " " + a + " " + v, x.loss(p, a, v, upper), y.loss(p, a, v, upper)); break;
            case 10: v = random.nextInt(3) == 0 ? some(0, 9) : Math.max(0, y.wants(a, k, 0)) + random.nextInt(2);
                same("see " + a + " " + v, x.see(a, v), y.see(a, v)); break;
            case 11: if (random.nextInt(3) == 0) { same("unsee", x.unsee(), y.unsee()); } break;
            case 12: same("likely " + k, x.likely(k, upper), y.likely(k, upper)); break;
            case 13: same("likeliest", x.likeliest(), y.likeliest()); break;
            case 14: same("ask", x.ask(), y.ask()); break;
            case 15: planCall(upper); break;
            case 16: same("day " + k, x.day(k), y.day(k)); break;
            case 17: v = some(0, random.nextBoolean() ? 10 : 60);
                same("gives " + a + " " + v, x.gives(a, v), y.gives(a, v)); break;
            case 18: v = some(0, 63); same("more " + a + " " + v, x.more(a, v), y.more(a, v)); break;
            case 19: case 20: vanCall(); break;
            case 21: v = some(1, 20); same("order " + h + " " + a + " " + v, x.order(h, a, v), y.order(h, a, v)); break;
            case 22: if (random.nextInt(4) == 0) { same("unorder", x.unorder(), y.unorder()); } break;
            case 23: case 24: case 25: v = some(0, 3);
                same("morning " + a + " " + h + " " + v, x.morning(a, h, v), y.morning(a, h, v)); break;
            case 26: case 27: v = some(0, 4); same("ended " + v, x.ended(v), y.ended(v)); break;
            case 28: same("ranOut " + a, x.ranOut(a), y.ranOut(a)); break;
            case 29: same("habit " + a, x.habit(a), y.habit(a)); break;
            case 30: v = random.nextBoolean() ? some(1, 3) : some(1, 30);
                same("days " + v, x.days(v), y.days(v)); break;
            case 31: case 32: v = random.nextInt(3) == 0 ? some(1, 60) : 1 + random.nextInt(6); p = some(0, 20);
                same("second " + a + " " + h + " " + v + " " + p, x.second(a, h, v, p), y.second(a, h, v, p)); break;
            case 33: v = some(0, 21); p = some(0, 20);
                same("paid " + a + " " + p + " " + v, x.paid(a, p, v), y.paid(a, p, v)); break;
            case 34: v = some(0, 21); p = random.nextBoolean() ? some(0, 999) : some(0, 150);
                same("leastPay " + a + " " + v + " " + p, x.leastPay(a, v, p), y.leastPay(a, v, p)); break;
            case 35: v = some(0, 1); same("keep " + v, x.keep(v), y.keep(v)); break;
            case 36: v = some(0, 1); same("again " + v, x.again(v), y.again(v)); break;
            case 37: v = some(0, 3); same("count " + v, x.count(v), y.count(v)); break;
            case 38: v = some(1, 8); if (random.nextInt(9) == 0) { same("write", x.write(v, 77), y.write(v, 77)); } break;
            default: if (random.nextInt(30) == 0) { same("wipe", x.wipe(), y.wipe()); }
        }
    }

    private void planCall(boolean upper) {
        int corners = corners(), k = some(0, 2), papers = papers(), van = some(0, 6), t = some(0, 6);
        if (random.nextInt(4) != 0) {
            papers = 100 * random.nextInt(3) + random.nextInt(3);
            van = random.nextInt(6);
        }
        String of = " " + corners + " " + k + " " + papers + " " + van + " " + t;
        same("best" + of, x.best(corners, k, papers, van, t, upper), y.best(corners, k, papers, van, t, upper));
        same("now" + of, x.now(corners, k, papers, van, t), y.now(corners, k, papers, van, t));
    }

    private void vanCall() {
        int v = some(0, random.nextBoolean() ? 12 : 60), rule = some(0, 2);
        int r = rule == 0 ? (random.nextInt(9) == 0 ? 1 : 0) : rule == 1 ? some(1, 20) : some(0, 5);
        same("van " + v + " " + rule + " " + r, x.van(v, rule, r), y.van(v, rule, r));
    }
}
