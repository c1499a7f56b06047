import java.lang.management.ManagementFactory;

/** No call makes objects, and none throws what it should not, whatever its arguments and the state. */
final class RoomTest {
    private static final int[] ODD = {
        Integer.MIN_VALUE, Integer.MIN_VALUE + 1, -1000000, -61, -9, -2, -1, 0, 1, 2, 3, 7, 8, 9, 12, 13, 28, 29, 31,
        32, 60, 61, 64, 699, 700, 701, 740, 741, 999, 1000, 1429, 1430, Integer.MAX_VALUE - 1, Integer.MAX_VALUE};

    private RoomTest() {
    }

    public static void main(String[] args) {
        for (int s = 0; s < 7; s++) {
            oddCalls(s);
        }
        allocation();
        Check.close("RoomTest");
    }

    private static SpanFacts state(int s) {
        SpanFacts x = new SpanFacts();
        if (s == 1) {
            x.grow();
        } else if (s == 2) {
            x.make(8, 700);
        } else if (s == 3) {
            x.make(8, 321);
            x.drawn(60, 5);
        } else if (s == 4) {
            for (int i = 0; i < 8; i++) {
                x.grow();
            }
            x.drawn(12, 99);
        } else if (s == 5) {
            for (int i = 0; i < 37; i++) {
                x.feed(0x20202020, -1, 0x61616161, Integer.MIN_VALUE, 0x3b3b3b3b);
            }
        } else if (s == 6) {
            for (int i = 0; i < 37; i++) {
                x.feed(0x61616161, 0x61616161, 0x61616161, 0x61616161, 0x61616161);
            }
        }
        return x;
    }

    private static void oddCalls(int s) {
        for (int a : ODD) {
            for (int b : ODD) {
                SpanFacts x = state(s);
                x.notes();
                x = state(s);
                pairCalls(x, a, b);
                for (int c : ODD) {
                    x.tell(a, b, c);
                    x.test(a, b, c);
                    x.yields(a, b, c);
                    x.late(a, b, c);
                    x.gap(a, b, c, 0);
                    x.gap(a, b, c, 1);
                    x.gap(0, 1, a, c);
                }
            }
            singleCalls(state(s), a);
        }
        Check.due("odd calls in state " + s + " ended", 1, 1);
    }

    private static void pairCalls(SpanFacts x, int a, int b) {
        Check.throwsNoSuch(x, a, b);
        x.about(a, b);
        x.begin(a, b);
        x.may(a, b);
        x.ahead(a, b);
        x.drawn(a, b);
        x.make(a, b);
        x.undo();
        x.feed(a, b, a, b, a);
        x.end(a);
        x.notes();
    }

    private static void singleCalls(SpanFacts x, int a) {
        x.now(a);
        x.refuted(a);
        x.ring(a);
        x.tight(a);
        x.chain(a);
        x.crowd(a);
        x.room(a);
        x.shape(a);
        x.shapes(a);
        x.image(a);
        x.restore(a);
        x.forget(a);
        x.drop(a);
        x.finish();
        x.turn();
        x.undo();
        x.rank();
        x.ways();
        x.idle();
    }

    /** What 512 dear calls make, measured twice, since the first time the machine itself makes objects. */
    private static void allocation() {
        com.sun.management.ThreadMXBean bean =
            (com.sun.management.ThreadMXBean) ManagementFactory.getThreadMXBean();
        long made = 0;
        for (int time = 0; time < 2; time++) {
            SpanFacts x = state(4);
            long had = bean.getCurrentThreadAllocatedBytes();
            for (int i = 0; i < 20; i++) {
                dearCalls(x, i);
            }
            made = bean.getCurrentThreadAllocatedBytes() - had;
        }
        Check.due("500 calls make at most 4000 bytes (" + made + ")", made <= 4000, true);
    }

    private static void dearCalls(SpanFacts x, int i) {
        x.ways();
        x.idle();
        x.rank();
        x.room(-1);
        x.chain(1);
        x.crowd(1);
        x.yields(0, i % 8, 7);
        x.test(1, i % 8, 7);
        x.drawn(60, i);
        x.undo();
        x.finish();
        x.undo();
        x.turn();
        x.undo();
        x.make(8, i * 50);
        x.undo();
        x.image(1);
        x.restore(1);
        x.tight(7);
        x.gap(0, 7, 5, 1);
        x.late(2, 4, 500);
        x.may(3, 4);
        x.feed(1769235821, 543243113, 1952804128, 1648060788, 1701650531);
        x.notes();
        x.restore(1);
    }
}
