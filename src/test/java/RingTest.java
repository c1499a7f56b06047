import java.util.Random;

/** Long rings and dense facts, which drawn runs seldom come to: all that could be told, beside the model. */
final class RingTest {
    private RingTest() {
    }

    public static void main(String[] args) {
        Random random = new Random(7);
        for (int i = 0; i < 150; i++) {
            loop(random);
            dense(random);
        }
        Check.close("RingTest");
    }

    /** Facts along a ring of all items, in a drawn order, and a few across it. */
    private static void loop(Random random) {
        SpanFacts x = new SpanFacts();
        Model m = new Model();
        int n = 4 + random.nextInt(5);
        int[] order = new int[n];
        for (int i = 0; i < n; i++) {
            x.grow();
            m.grow();
            int j = random.nextInt(i + 1);
            order[i] = order[j];
            order[j] = i;
        }
        int first = random.nextInt(n);
        for (int i = 0; i + 1 < n; i++) {
            int a = order[(first + i) % n];
            int b = order[(first + i + 1) % n];
            tell(x, m, random.nextInt(2), a, b);
        }
        for (int i = random.nextInt(4); i > 0; i--) {
            tell(x, m, random.nextInt(2), random.nextInt(n), random.nextInt(n));
        }
        all(x, m, n);
    }

    /** Of each two items a fact, in a drawn order of telling, but for some. */
    private static void dense(Random random) {
        SpanFacts x = new SpanFacts();
        Model m = new Model();
        int n = 5 + random.nextInt(4);
        int rank = random.nextInt(m.shapes(n));
        Check.due("make", x.make(n, rank), m.make(n, rank));
        for (int i = random.nextInt(12); i > 0; i--) {
            int k = random.nextInt(m.now(1));
            int kind = m.fact(k, 0);
            int a = m.fact(k, 1);
            int b = m.fact(k, 2);
            Check.due("forget", x.forget(k), m.forget(k));
            tell(x, m, kind, b, a);
            tell(x, m, kind, a, b);
        }
        for (int i = 1 + random.nextInt(4); i > 0; i--) {
            int k = random.nextInt(m.now(1));
            Check.due("forget", x.forget(k), m.forget(k));
        }
        all(x, m, n);
    }

    private static void tell(SpanFacts x, Model m, int kind, int a, int b) {
        Check.due("tell(" + kind + ", " + a + ", " + b + ")", x.tell(kind, a, b), m.tell(kind, a, b));
    }

    private static void all(SpanFacts x, Model m, int n) {
        Check.due("now(3)", x.now(3), m.now(3));
        Check.due("idle()", x.idle(), m.idle());
        for (int a = 0; a < n; a++) {
            for (int b = 0; b < n; b++) {
                Check.due("may(" + a + ", " + b + ")", x.may(a, b), m.may(a, b));
                for (int kind = 0; kind < 2; kind++) {
                    String call = "(" + kind + ", " + a + ", " + b + ")";
                    Check.due("test" + call, x.test(kind, a, b), m.test(kind, a, b));
                    for (int i = 0; i < 9; i++) {
                        Check.due("refuted(" + i + ") behind test" + call, x.refuted(i), m.refuted(i));
                        Check.due("ring(" + i + ") behind test" + call, x.ring(i), m.ring(i));
                    }
                    Check.due("yields" + call, x.yields(kind, a, b), m.yields(kind, a, b));
                }
            }
        }
    }
}
