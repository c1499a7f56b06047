import java.util.NoSuchElementException;
import java.util.Random;

/** Long drawn runs of calls, each answered by the class and by the slow model. */
final class ModelTest {
    private static final int[] ODD = {Integer.MIN_VALUE, -1000000, -2, -1, 60, 61, 999, 1000, Integer.MAX_VALUE};
    private static final String[] NAMES = {"a", "b", "c", "dd", "eeeeeee", "f", "items", "befor", "besides"};

    private final Random random;
    private final SpanFacts x = new SpanFacts();
    private final Model m = new Model();
    private final StringBuilder told = new StringBuilder();

    private ModelTest(long seed) {
        random = new Random(seed);
    }

    public static void main(String[] args) {
        int runs = args.length > 0 ? Integer.parseInt(args[0]) : 300;
        for (int run = 0; run < runs; run++) {
            new ModelTest(run).run(run);
        }
        Check.close("ModelTest");
    }

    private void run(int run) {
        int calls = 0;
        if (random.nextInt(3) > 0) {
            int n = 1 + random.nextInt(8);
            for (int i = 0; i < n; i++) {
                call(30);
                calls++;
            }
            calls++;
            drawn(1 + random.nextInt(60));
        }
        int wrong = Check.wrongOnes();
        while (calls < 400 && Check.wrongOnes() == wrong) {
            call(random.nextInt(60));
            calls += 1;
        }
        if (Check.wrongOnes() != wrong) {
            System.out.println("run " + run + ":" + told);
        }
    }

    private void due(String call, long got, long want) {
        told.append(' ').append(call).append('=').append(got);
        Check.due(call, got, want);
    }

    private int item() {
        return random.nextInt(25) == 0 ? odd() : random.nextInt(Math.max(1, m.now(0)) + (random.nextInt(9) == 0 ? 1 : 0));
    }

    private int odd() {
        return ODD[random.nextInt(ODD.length)];
    }

    private int length() {
        int r = random.nextInt(12);
        return r == 0 ? odd() : r < 3 ? random.nextInt(63) : 1 + random.nextInt(6);
    }

    private int what(int above) {
        return random.nextInt(20) == 0 ? odd() : random.nextInt(above + 1);
    }

    private void drawn(int n) {
        int s = random.nextInt();
        due("drawn(" + n + ", " + s + ")", x.drawn(n, s), m.drawn(n, s));
    }

    private void call(int which) {
        int a = item();
        int b = item();
        int kind = what(1) == 2 ? 2 : random.nextInt(30) == 0 ? odd() : random.nextInt(2);
        String abc = "(" + kind + ", " + a + ", " + b + ")";
        int len = length();
        switch (which) {
            case 0: case 1: case 2: case 3: case 4: case 5: case 6: case 7: case 8:
                due("tell" + abc, x.tell(kind, a, b), m.tell(kind, a, b));
                state();
                break;
            case 9: {
                int k = what(Math.max(1, m.now(1)));
                due("forget(" + k + ")", x.forget(k), m.forget(k));
                break;
            }
            case 10: case 11: case 12: case 13: case 14:
                due("test" + abc, x.test(kind, a, b), m.test(kind, a, b));
                rings();
                break;
            case 15: case 16:
                due("yields" + abc, x.yields(kind, a, b), m.yields(kind, a, b));
                break;
            case 17: case 18: case 19:
                due("begin(" + a + ", " + len + ")", x.begin(a, len), m.begin(a, len));
                break;
            case 20: case 21: case 22: case 23: {
                int w = what(1);
                due("gap(" + a + ", " + b + ", " + len + ", " + w + ")", x.gap(a, b, len, w), m.gap(a, b, len, w));
                break;
            }
            case 24:
                due("tight(" + len + ")", x.tight(len), m.tight(len));
                break;
            case 25: case 26:
                due("may(" + a + ", " + b + ")", x.may(a, b), m.may(a, b));
                break;
            case 27:
                due("ways()", x.ways(), m.ways());
                break;
            case 28:
                due("idle()", x.idle(), m.idle());
                break;
            case 29: {
                int w = random.nextInt(5) == 0 ? odd() : random.nextInt(40);
                due("late(" + a + ", " + len + ", " + w + ")", x.late(a, len, w), m.late(a, len, w));
                break;
            }
            default:
                callMore(which - 30, a, b, len);
        }
    }

    private void callMore(int which, int a, int b, int len) {
        switch (which) {
            case 0: case 1:
                due("grow()", x.grow(), m.grow());
                break;
            case 2:
                due("drop(" + a + ")", x.drop(a), m.drop(a));
                break;
            case 3:
                due("turn()", x.turn(), m.turn());
                break;
            case 4: case 5:
                due("undo()", x.undo(), m.undo());
                state();
                break;
            case 6:
                drawn(what(60));
                state();
                break;
            case 7: {
                int k = what(2);
                due("image(" + k + ")", x.image(k) ? 1 : 0, m.image(k) ? 1 : 0);
                break;
            }
            case 8: {
                int k = what(2);
                if (random.nextInt(3) == 0) {
                    due("restore(" + k + ")", x.restore(k) ? 1 : 0, m.restore(k) ? 1 : 0);
                    state();
                }
                break;
            }
            case 9:
                if (random.nextInt(3) == 0) {
                    due("finish()", x.finish(), m.finish());
                    state();
                }
                break;
            case 10: {
                int n = 1 + random.nextInt(8);
                int r = random.nextInt(9) == 0 ? odd() : random.nextInt(m.shapes(n) + 1);
                if (random.nextInt(4) == 0) {
                    due("make(" + n + ", " + r + ")", x.make(n, r), m.make(n, r));
                    state();
                }
                break;
            }
            case 11: case 12: case 13:
                notes();
                break;
            case 14: case 15:
                due("ahead(" + a + ", " + b + ")", x.ahead(a, b), m.ahead(a, b));
                break;
            case 16: case 17: {
                int w = what(1);
                due("chain(" + w + ")", x.chain(w), m.chain(w));
                due("crowd(" + w + ")", x.crowd(w), m.crowd(w));
                break;
            }
            case 18: case 19: {
                int r = random.nextInt(4) == 0 ? -1 : a;
                due("room(" + r + ")", x.room(r), m.room(r));
                break;
            }
            case 20: case 21:
                due("shape(" + a + ")", x.shape(a), m.shape(a));
                break;
            case 22:
                due("rank()", x.rank(), m.rank());
                break;
            case 23:
                due("now(" + len + ")", x.now(len), m.now(len));
                break;
            case 24:
                due("about(" + a + ", " + b + ")", x.about(a, b), m.about(a, b));
                break;
            case 25:
                fact(what(Math.max(1, m.now(1))), what(2));
                break;
            case 26: {
                int n = what(700);
                due("end(" + n + ")", x.end(n) ? 1 : 0, m.end(n) ? 1 : 0);
                break;
            }
            case 27:
                feed(text());
                break;
            default:
                rings();
                due("fault()", x.fault(), m.fault());
        }
    }

    private void fact(int k, int what) {
        int got = -7;
        int want = -7;
        try {
            got = x.fact(k, what);
        } catch (NoSuchElementException e) {
            got = -8;
        }
        try {
            want = m.fact(k, what);
        } catch (NoSuchElementException e) {
            want = -8;
        }
        due("fact(" + k + ", " + what + ")", got, want);
    }

    private void state() {
        for (int w = -1; w <= 6; w++) {
            Check.due("now(" + w + ")", x.now(w), m.now(w));
        }
        for (int k = 0; k < m.now(1); k++) {
            for (int w = 0; w <= 2; w++) {
                Check.due("fact(" + k + ", " + w + ")", x.fact(k, w), m.fact(k, w));
            }
        }
    }

    private void rings() {
        for (int i = -1; i <= 9; i++) {
            Check.due("refuted(" + i + ")", x.refuted(i), m.refuted(i));
            Check.due("ring(" + i + ")", x.ring(i), m.ring(i));
        }
    }

    private void feed(String text) {
        for (int i = 0; i < text.length(); i += 20) {
            int[] n = Check.portion(text, i);
            due("feed(" + n[0] + ", " + n[1] + ", " + n[2] + ", " + n[3] + ", " + n[4] + ")",
                x.feed(n[0], n[1], n[2], n[3], n[4]), m.feed(n[0], n[1], n[2], n[3], n[4]));
        }
    }

    private void notes() {
        due("end(0)", x.end(0) ? 1 : 0, m.end(0) ? 1 : 0);
        String text = text();
        feed(text);
        int cut = text.length() - (random.nextInt(6) == 0 ? random.nextInt(5) : 0);
        due("end(" + cut + ")", x.end(cut) ? 1 : 0, m.end(cut) ? 1 : 0);
        due("notes()", x.notes(), m.notes());
        due("fault()", x.fault(), m.fault());
        state();
        rings();
    }

    /** Rows of items, then of facts, with a fault at times, and at times about 700 bytes. */
    private String text() {
        StringBuilder s = new StringBuilder();
        int items = random.nextInt(10);
        for (int i = 0; i < items; i++) {
            row(s, "item", NAMES[i < 8 || random.nextBoolean() ? i % 9 : random.nextInt(9)]);
        }
        int facts = random.nextInt(24);
        for (int i = 0; i < facts; i++) {
            int a = random.nextInt(Math.max(1, items));
            int b = random.nextInt(Math.max(1, items));
            row(s, NAMES[a % 9], random.nextInt(3) == 0 ? "before" : "beside", NAMES[b % 9]);
            if (a == b && random.nextInt(30) > 0) {
                s.setLength(s.lastIndexOf(";", s.length() - 2) + 1);
            }
        }
        if (random.nextInt(4) == 0) {
            pad(s, 690 + random.nextInt(25));
        }
        if (random.nextInt(3) == 0 && s.length() > 0) {
            int at = random.nextInt(4) == 0 ? Math.max(0, s.length() - 1 - random.nextInt(12)) : random.nextInt(s.length());
            String some = "; \nabqz{`@\u00e9\u0000\titem";
            s.setCharAt(at, some.charAt(random.nextInt(some.length())));
        }
        if (s.length() > 740) {
            s.setLength(740);
        }
        return s.toString();
    }

    private void row(StringBuilder s, String... words) {
        for (int i = 0; i < words.length; i++) {
            s.append(i == 0 ? "" : " ").append(words[i]);
            if (random.nextInt(25) == 0) {
                s.append(random.nextBoolean() ? "\n" : "  ");
            }
        }
        s.append(random.nextInt(60) == 0 ? "" : ";");
    }

    /** Blanks go ahead of the last rows, so that tokens lie about the place. */
    private void pad(StringBuilder s, int size) {
        int at = s.length() == 0 ? 0 : s.lastIndexOf(";", Math.max(0, s.length() - 1 - random.nextInt(30))) + 1;
        int need = size - s.length();
        if (need > 0) {
            s.insert(at, Check.repeat(random.nextBoolean() ? " " : "\n", need));
        }
    }
}
