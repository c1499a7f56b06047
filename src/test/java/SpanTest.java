import java.util.Arrays;

/**
 * Every set of facts of four items, with all that the Terms say of SPANS looked at word by word: all rows of
 * numbers are tried, so that no thought of how they could be found stands between the document and the answer.
 * It is for promises 6 (LEAST), 9, 13 to 17 and 19 to 22.
 */
final class SpanTest {
    private static final int ITEMS = 4;
    private static final int[] A = {0, 0, 0, 1, 1, 2};
    private static final int[] B = {1, 2, 3, 2, 3, 3};
    private static final int PAIRS = A.length;
    /** Of a pair nothing is told, the first is before, the second is before, they are beside. */
    private static final int CHOICES = 4;
    private static final int CODES = 1 << 2 * PAIRS;
    private static final int LENGTHS = 3;
    private static final boolean[] GOOD = new boolean[CODES];

    private SpanTest() {
    }

    /** What was seen of all spans with no number above a width. */
    private static final class Seen {
        final int code;
        final int length;
        final int width;
        final int[] x = new int[ITEMS];
        final int[] least = new int[ITEMS];
        final int[][] leastGap = new int[ITEMS][ITEMS];
        /** By the greatest number of the spans, and by item: the greatest number it has. */
        final int[][] greatest;
        int count = 0;

        Seen(int code, int length, int width) {
            this.code = code;
            this.length = length;
            this.width = width;
            greatest = new int[width + 1][ITEMS];
            Arrays.fill(least, 9999);
            for (int i = 0; i < ITEMS; i++) {
                Arrays.fill(leastGap[i], 9999);
            }
            for (int[] row : greatest) {
                Arrays.fill(row, -1);
            }
            number(0);
        }

        private void number(int item) {
            if (item == ITEMS) {
                look();
                return;
            }
            for (x[item] = 0; x[item] <= width; x[item]++) {
                if (holdsUpTo(item)) {
                    number(item + 1);
                }
            }
        }

        private boolean holdsUpTo(int item) {
            for (int p = 0; p < PAIRS; p++) {
                if (B[p] == item && !holds(p, x)) {
                    return false;
                }
            }
            return true;
        }

        boolean holds(int p, int[] at) {
            int a = at[A[p]];
            int b = at[B[p]];
            switch (choice(code, p)) {
                case 1:
                    return a + length <= b;
                case 2:
                    return b + length <= a;
                case 3:
                    return a - b < length && b - a < length;
                default:
                    return true;
            }
        }

        private void look() {
            count++;
            int top = 0;
            for (int i = 0; i < ITEMS; i++) {
                least[i] = Math.min(least[i], x[i]);
                top = Math.max(top, x[i]);
                for (int j = 0; j < ITEMS; j++) {
                    leastGap[i][j] = Math.min(leastGap[i][j], x[j] - x[i]);
                }
            }
            for (int i = 0; i < ITEMS; i++) {
                greatest[top][i] = Math.max(greatest[top][i], x[i]);
            }
        }

        int late(int item, int w) {
            int best = -1;
            for (int top = 0; top <= w; top++) {
                best = Math.max(best, greatest[top][item]);
            }
            return best;
        }
    }

    public static void main(String[] args) {
        for (int code = 0; code < CODES; code++) {
            GOOD[code] = leastOf(code) != 0;
        }
        for (int code = 0; code < CODES; code++) {
            Check.topic("facts " + Integer.toString(code, CHOICES) + " (base 4, the last pair first)");
            look(code);
        }
        Check.topic("");
        Check.close("SpanTest");
    }

    private static int choice(int code, int p) {
        return code >> 2 * p & 3;
    }

    private static int with(int code, int p, int choice) {
        return code & ~(3 << 2 * p) | choice << 2 * p;
    }

    /** 0 without any; a ring of four facts wants no length above 2. */
    private static int leastOf(int code) {
        for (int length = 1; length <= LENGTHS; length++) {
            if (new Seen(code, length, 3 * length).count > 0) {
                return length;
            }
        }
        return 0;
    }

    /** Facts are told from the first pair on, or from the last one, so that their numbers are not always alike. */
    private static int pairOf(int code, int i) {
        return Integer.bitCount(code) % 2 == 0 ? i : PAIRS - 1 - i;
    }

    private static int tell(SpanFacts x, int p, int choice) {
        return x.tell(choice == 3 ? 1 : 0, choice == 2 ? B[p] : A[p], choice == 2 ? A[p] : B[p]);
    }

    private static void look(int code) {
        SpanFacts x = new SpanFacts();
        for (int i = 0; i < ITEMS; i++) {
            x.grow();
        }
        int told = 0;
        int[] pairs = new int[PAIRS];
        int count = 0;
        for (int i = 0; i < PAIRS; i++) {
            int p = pairOf(code, i);
            int more = with(told, p, choice(code, p));
            if (more != told) {
                Check.due("tell of " + A[p] + " and " + B[p], tell(x, p, choice(code, p)), GOOD[more] ? count : -2);
                if (!GOOD[more]) {
                    return;
                }
                told = more;
                pairs[count] = p;
                count++;
            }
        }
        Check.due("good", GOOD[code], true);
        lookAtChoices(x, code, Arrays.copyOf(pairs, count));
        int least = leastOf(code);
        Check.due("now(3)", x.now(3), least);
        for (int length = 1; length <= LENGTHS; length++) {
            lookAtSpans(x, code, Arrays.copyOf(pairs, count), length, least);
        }
    }

    // ---- what may be told ----

    private static void lookAtChoices(SpanFacts x, int code, int[] pairs) {
        Check.due("ways()", x.ways(), ways(code, 0));
        int idle = 0;
        for (int k = 0; k < pairs.length; k++) {
            int own = choice(code, pairs[k]);
            idle |= may(code, pairs[k]) == 1 << own - 1 ? 1 << k : 0;
        }
        Check.due("idle()", x.idle(), idle);
        for (int p = 0; p < PAIRS; p++) {
            int may = may(code, p);
            Check.due("may", x.may(A[p], B[p]), may);
            Check.due("may, back", x.may(B[p], A[p]), (may & 1) << 1 | may >> 1 & 1 | may & 4);
            for (int choice = 1; choice < CHOICES; choice++) {
                int first = choice == 2 ? B[p] : A[p];
                int second = choice == 2 ? A[p] : B[p];
                int want = choice(code, p) != 0 ? SpanFacts.NONE : yields(with(code, p, choice), pairs);
                Check.due("yields", x.yields(choice == 3 ? 1 : 0, first, second), want);
            }
        }
    }

    private static int may(int code, int p) {
        int bits = 0;
        for (int choice = 1; choice < CHOICES; choice++) {
            bits |= GOOD[with(code, p, choice)] ? 1 << choice - 1 : 0;
        }
        return bits;
    }

    private static int ways(int code, int p) {
        if (p == PAIRS) {
            return GOOD[code] ? 1 : 0;
        }
        if (choice(code, p) != 0) {
            return ways(code, p + 1);
        }
        int sum = 0;
        for (int choice = 1; choice < CHOICES; choice++) {
            sum += ways(with(code, p, choice), p + 1);
        }
        return Math.min(sum, 999);
    }

    private static int yields(int code, int[] pairs) {
        for (int few = 0; few <= 3; few++) {
            for (int bits = 0; bits < 1 << pairs.length; bits++) {
                int left = code;
                for (int k = 0; k < pairs.length; k++) {
                    left = (bits >> k & 1) == 1 ? with(left, pairs[k], 0) : left;
                }
                if (Integer.bitCount(bits) == few && GOOD[left]) {
                    return bits;
                }
            }
        }
        return -2;
    }

    // ---- spans ----

    private static void lookAtSpans(SpanFacts x, int code, int[] pairs, int length, int least) {
        int width = 6 * length;
        Seen seen = new Seen(code, length, width);
        Check.due("spans of " + length, seen.count > 0, length >= least);
        boolean none = seen.count == 0;
        Check.due("tight(" + length + ")", x.tight(length), none ? SpanFacts.NONE : tight(seen, pairs));
        for (int i = 0; i < ITEMS; i++) {
            Check.due("begin(" + i + ", " + length + ")", x.begin(i, length), none ? SpanFacts.NONE : seen.least[i]);
            for (int w = 0; w <= width; w++) {
                Check.due("late(" + i + ", " + length + ", " + w + ")", x.late(i, length, w), seen.late(i, w));
            }
        }
        lookAtGaps(x, seen, new Seen(code, length, width - 1));
        for (int p = 0; p < PAIRS && !none; p++) {
            Check.due("all begin there at once", seen.holds(p, seen.least), true);
        }
        for (int i = 0; i < ITEMS && length == least; i++) {
            for (int j = 0; j < ITEMS; j++) {
                Check.due("ahead(" + i + ", " + j + ")", x.ahead(i, j), seen.least[i] + least <= seen.least[j] ? 1 : 0);
            }
        }
    }

    private static int tight(Seen seen, int[] pairs) {
        int bits = 0;
        for (int k = 0; k < pairs.length; k++) {
            int step = Math.abs(seen.least[A[pairs[k]]] - seen.least[B[pairs[k]]]);
            bits |= step == (choice(seen.code, pairs[k]) == 3 ? seen.length - 1 : seen.length) ? 1 << k : 0;
        }
        return bits;
    }

    /** A gap that gets less with more room has no least. */
    private static void lookAtGaps(SpanFacts x, Seen seen, Seen narrow) {
        for (int i = 0; i < ITEMS; i++) {
            for (int j = 0; j < ITEMS; j++) {
                boolean none = seen.count == 0 || seen.leastGap[i][j] != narrow.leastGap[i][j];
                String call = "gap(" + i + ", " + j + ", " + seen.length + ")";
                Check.due(call, x.gap(i, j, seen.length, 0), none ? SpanFacts.HIDDEN : seen.leastGap[i][j]);
                Check.due(call + ", most", x.gap(j, i, seen.length, 1), none ? SpanFacts.HIDDEN : -seen.leastGap[i][j]);
            }
        }
    }
}
