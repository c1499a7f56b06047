import java.util.Arrays;
import java.util.NoSuchElementException;

/**
 * Facts that one item was before another one, or beside it, with a tolerance.
 * The document DOC.md says each answer; its terms are used here in small letters.
 */
public final class SpanFacts {
    public static final int NONE = -1;
    public static final int HIDDEN = -1000000;

    private static final int REFUTED = -2;
    private static final int BEFORE = 0;
    private static final int BESIDE = 1;

    private static final int MOST_ITEMS = 8;
    private static final int MOST_FACTS = 28;
    private static final int CELLS = MOST_ITEMS * MOST_ITEMS;
    private static final int LONGEST = 60;
    private static final int WIDEST = 999;
    private static final int MOST_WAYS = 999;
    private static final int MOST_YIELDS = 3;
    private static final int MOST_DEEDS = 60;
    private static final int MOST_ACTS = 8;
    private static final int IMAGES = 2;

    /** No row of facts leads from one item to the other: far below any sum that can come. */
    private static final int NO_WAY = -1000000000;

    /** What may be told of two items, as bits. */
    private static final int MAY_BEFORE = 1;
    private static final int MAY_AFTER = 2;
    private static final int MAY_BESIDE = 4;

    private final Facts facts;
    private final Facts mark;
    private final Past past;
    private final Facts[] images;
    private final boolean[] imageKept;
    private final Ring proof;
    private final Ring sketch;
    private final Reach reach;
    private final Order order;
    private final Ways wayCounter;
    private final Shapes catalogue;
    private final int[] spelled;
    private final Tape tape;
    private final Reader reader;
    private int seedNow;

    public SpanFacts() {
        facts = new Facts();
        mark = new Facts();
        past = new Past();
        images = new Facts[IMAGES];
        for (int k = 0; k < IMAGES; k++) {
            images[k] = new Facts();
        }
        imageKept = new boolean[IMAGES];
        proof = new Ring();
        sketch = new Ring();
        reach = new Reach();
        order = new Order();
        wayCounter = new Ways();
        catalogue = new Shapes();
        spelled = new int[MOST_ITEMS];
        tape = new Tape();
        reader = new Reader(tape, proof);
        seedNow = 0;
    }

    public int feed(int a, int b, int c, int d, int e) {
        if (tape.size + Tape.PORTION > Tape.ROOM) {
            return NONE;
        }
        tape.put(a);
        tape.put(b);
        tape.put(c);
        tape.put(d);
        tape.put(e);
        return tape.size;
    }

    public boolean end(int n) {
        if (n < 0 || n > tape.size) {
            return false;
        }
        tape.size = n;
        return true;
    }

    public int notes() {
        int answer = reader.read();
        tape.size = 0;
        if (reader.fault == 0) {
            facts.copyFrom(reader.draft);
            past.count = 0;
        }
        return answer;
    }

    public int fault() {
        return reader.fault;
    }

    public int now(int what) {
        switch (what) {
            case 0:
                return facts.items;
            case 1:
                return facts.count;
            case 2:
                return facts.beforeBits();
            case 3:
                order.lay(facts);
                return order.least;
            case 4:
                return past.count;
            case 5:
                return tape.size;
            default:
                return NONE;
        }
    }

    public int fact(int k, int what) throws NoSuchElementException {
        if (!facts.hasFact(k) || what < 0 || what > 2) {
            throw new NoSuchElementException("no such fact, or nothing such of it");
        }
        if (what == 0) {
            return facts.kinds[k];
        }
        return what == 1 ? facts.firsts[k] : facts.seconds[k];
    }

    public int about(int a, int b) {
        return facts.hasPair(a, b) ? facts.indexOf(a, b) : NONE;
    }

    public int tell(int kind, int a, int b) {
        if (!canBeNamed(kind, a, b)) {
            return NONE;
        }
        if (proof.seek(facts, 0, kind, a, b)) {
            return REFUTED;
        }
        past.push(facts);
        facts.add(kind, a, b);
        return facts.count - 1;
    }

    public int refuted(int what) {
        if (proof.size == 0) {
            return NONE;
        }
        switch (what) {
            case 0:
                return proof.size;
            case 1:
                return proof.befores;
            case 2:
                return proof.from;
            case 3:
                return proof.to;
            default:
                return NONE;
        }
    }

    public int ring(int i) {
        return i >= 1 && i < proof.size ? proof.row[i - 1] : NONE;
    }

    public int forget(int k) {
        if (!facts.hasFact(k)) {
            return NONE;
        }
        past.push(facts);
        facts.remove(k);
        return facts.count;
    }

    public int begin(int item, int length) {
        if (!facts.hasItem(item) || !layOut(length)) {
            return NONE;
        }
        return reach.earliest(item);
    }

    public int gap(int a, int b, int length, int what) {
        if (!facts.hasItem(a) || !facts.hasItem(b) || what < 0 || what > 1 || !layOut(length)) {
            return HIDDEN;
        }
        int sum = what == 0 ? reach.between(a, b) : reach.between(b, a);
        if (sum == NO_WAY) {
            return HIDDEN;
        }
        return what == 0 ? sum : -sum;
    }

    public int tight(int length) {
        if (!layOut(length)) {
            return NONE;
        }
        int bits = 0;
        for (int k = 0; k < facts.count; k++) {
            int step = reach.earliest(facts.seconds[k]) - reach.earliest(facts.firsts[k]);
            boolean spare = facts.kinds[k] == BEFORE ? step != length : Math.abs(step) != length - 1;
            if (!spare) {
                bits |= 1 << k;
            }
        }
        return bits;
    }

    public int may(int a, int b) {
        return facts.hasPair(a, b) ? openTo(a, b) : NONE;
    }

    public int ways() {
        return wayCounter.count(facts);
    }

    public int test(int kind, int a, int b) {
        if (!canBeNamed(kind, a, b)) {
            return NONE;
        }
        return proof.seek(facts, 0, kind, a, b) ? proof.size : 0;
    }

    public int yields(int kind, int a, int b) {
        if (!canBeNamed(kind, a, b)) {
            return NONE;
        }
        for (int few = 0; few <= MOST_YIELDS; few++) {
            int bits = leastYield(kind, a, b, 0, few);
            if (bits != NONE) {
                return bits;
            }
        }
        return REFUTED;
    }

    public int idle() {
        int bits = 0;
        for (int k = 0; k < facts.count; k++) {
            if (Integer.bitCount(openTo(facts.firsts[k], facts.seconds[k])) == 1) {
                bits |= 1 << k;
            }
        }
        return bits;
    }

    public int late(int item, int length, int w) {
        if (!facts.hasItem(item) || w < 0 || w > WIDEST || !layOut(length)) {
            return NONE;
        }
        int behind = 0;
        for (int v = 0; v < facts.items; v++) {
            if (reach.earliest(v) > w) {
                return NONE;
            }
            behind = Math.max(behind, reach.between(item, v));
        }
        return w - behind;
    }

    public int ahead(int a, int b) {
        if (!facts.hasItem(a) || !facts.hasItem(b)) {
            return NONE;
        }
        order.lay(facts);
        return order.precedes(a, b) ? 1 : 0;
    }

    public int chain(int what) {
        return greatest(what, true);
    }

    public int crowd(int what) {
        return greatest(what, false);
    }

    public int room(int item) {
        if (item != NONE && !facts.hasItem(item)) {
            return NONE;
        }
        order.lay(facts);
        order.fillRooms();
        return item == NONE ? order.rooms : order.roomOf[item];
    }

    public int shape(int i) {
        if (!facts.hasItem(i)) {
            return NONE;
        }
        order.lay(facts);
        order.fillProfile();
        return order.profile[i];
    }

    public int rank() {
        order.lay(facts);
        order.fillProfile();
        return catalogue.rankOf(order.profile, facts.items);
    }

    public int shapes(int n) {
        return n < 0 || n > Shapes.MOST ? NONE : catalogue.howMany(n);
    }

    public int make(int n, int rank) {
        if (n < 1 || n > MOST_ITEMS || rank < 0 || rank >= catalogue.howMany(n)) {
            return NONE;
        }
        catalogue.spell(n, rank, spelled);
        past.push(facts);
        facts.clear();
        facts.items = n;
        for (int a = 0; a < n; a++) {
            for (int b = a + 1; b < n; b++) {
                facts.add(a < spelled[b] ? BEFORE : BESIDE, a, b);
            }
        }
        return facts.count;
    }

    public int finish() {
        mark.copyFrom(facts);
        reach.weigh(facts, 0);
        int told = 0;
        for (int a = 0; a < facts.items; a++) {
            for (int b = a + 1; b < facts.items; b++) {
                if (facts.indexOf(a, b) == NONE) {
                    tellFirstOpen(a, b);
                    told++;
                }
            }
        }
        keepMarkIf(told > 0);
        return told;
    }

    public int grow() {
        if (facts.items >= MOST_ITEMS) {
            return NONE;
        }
        past.push(facts);
        facts.items++;
        return facts.items - 1;
    }

    public int drop(int item) {
        if (!facts.hasItem(item)) {
            return NONE;
        }
        past.push(facts);
        facts.removeItem(item);
        return facts.items;
    }

    public int turn() {
        mark.copyFrom(facts);
        int turned = facts.turnBefores();
        keepMarkIf(turned > 0);
        return turned;
    }

    public int drawn(int n, int seed) {
        if (n < 1 || n > MOST_DEEDS) {
            return NONE;
        }
        mark.copyFrom(facts);
        seedNow = seed;
        int done = 0;
        for (int i = 0; i < n; i++) {
            if (draw(8) == 0 ? drawForgotten() : drawTold()) {
                done++;
            }
        }
        keepMarkIf(done > 0);
        return done;
    }

    public int undo() {
        if (past.count == 0) {
            return NONE;
        }
        past.popInto(facts);
        return past.count;
    }

    public boolean image(int k) {
        if (k < 0 || k >= IMAGES) {
            return false;
        }
        images[k].copyFrom(facts);
        imageKept[k] = true;
        return true;
    }

    public boolean restore(int k) {
        if (k < 0 || k >= IMAGES || !imageKept[k]) {
            return false;
        }
        facts.copyFrom(images[k]);
        past.count = 0;
        return true;
    }

    private boolean canBeNamed(int kind, int a, int b) {
        return (kind == BEFORE || kind == BESIDE) && facts.hasPair(a, b) && facts.indexOf(a, b) == NONE;
    }

    /** Spans of a length, if there are any: a length is below the least just if there are none. */
    private boolean layOut(int length) {
        return length >= 1 && length <= LONGEST && reach.stretch(facts, length);
    }

    /** What may be told of two items besides all facts but their own. */
    private int openTo(int a, int b) {
        int own = facts.indexOf(a, b);
        reach.weigh(facts, own == NONE ? 0 : 1 << own);
        return reach.options(a, b);
    }

    /** The least bits of facts, those gone and so many more at most, without which the fact is not refuted. */
    private int leastYield(int kind, int a, int b, int gone, int left) {
        if (!sketch.seek(facts, gone, kind, a, b)) {
            return gone;
        }
        return left <= 0 ? NONE : leastOfRing(kind, a, b, gone, left);
    }

    /** One fact of each ring must go, so only those of the ring just found need be tried. */
    private int leastOfRing(int kind, int a, int b, int gone, int left) {
        int ringBits = sketch.bits();
        int best = NONE;
        for (int k = 0; k < facts.count; k++) {
            if ((ringBits >> k & 1) == 1) {
                int bits = leastYield(kind, a, b, gone | 1 << k, left - 1);
                if (bits != NONE && (best == NONE || bits < best)) {
                    best = bits;
                }
            }
        }
        return best;
    }

    private int greatest(int what, boolean chained) {
        if (what < 0 || what > 1) {
            return NONE;
        }
        order.lay(facts);
        int bits = order.greatestSet(chained);
        return what == 0 ? Integer.bitCount(bits) : bits;
    }

    private void tellFirstOpen(int a, int b) {
        int open = reach.options(a, b);
        if ((open & MAY_BEFORE) != 0) {
            tellWeighed(BEFORE, a, b);
        } else if ((open & MAY_AFTER) != 0) {
            tellWeighed(BEFORE, b, a);
        } else {
            tellWeighed(BESIDE, a, b);
        }
    }

    private void tellWeighed(int kind, int a, int b) {
        facts.add(kind, a, b);
        reach.join(kind, a, b);
    }

    private void keepMarkIf(boolean done) {
        if (done) {
            past.push(mark);
        }
    }

    private int draw(int n) {
        seedNow = seedNow * 1103515245 + 12345;
        return n < 1 ? 0 : (seedNow >>> 8) % n;
    }

    private boolean drawForgotten() {
        if (facts.count == 0) {
            return false;
        }
        facts.remove(draw(facts.count));
        return true;
    }

    private boolean drawTold() {
        if (facts.items < 2) {
            return false;
        }
        int a = draw(facts.items);
        int b = draw(facts.items - 1);
        if (b >= a) {
            b++;
        }
        int kind = draw(2);
        if (!canBeNamed(kind, a, b)) {
            return false;
        }
        reach.weigh(facts, 0);
        if ((reach.options(a, b) & (kind == BEFORE ? MAY_BEFORE : MAY_BESIDE)) == 0) {
            return false;
        }
        facts.add(kind, a, b);
        return true;
    }

    /** Items and the facts told of them. */
    private static final class Facts {
        int items;
        int count;
        final int[] kinds = new int[MOST_FACTS];
        final int[] firsts = new int[MOST_FACTS];
        final int[] seconds = new int[MOST_FACTS];

        void copyFrom(Facts other) {
            items = other.items;
            count = other.count;
            System.arraycopy(other.kinds, 0, kinds, 0, count);
            System.arraycopy(other.firsts, 0, firsts, 0, count);
            System.arraycopy(other.seconds, 0, seconds, 0, count);
        }

        void clear() {
            items = 0;
            count = 0;
        }

        boolean hasItem(int item) {
            return item >= 0 && item < items;
        }

        boolean hasPair(int a, int b) {
            return hasItem(a) && hasItem(b) && a != b;
        }

        boolean hasFact(int k) {
            return k >= 0 && k < count;
        }

        /** The item to which a fact goes from an item; NONE if it does not go from there. */
        int target(int k, int from) {
            if (firsts[k] == from) {
                return seconds[k];
            }
            return kinds[k] == BESIDE && seconds[k] == from ? firsts[k] : NONE;
        }

        int indexOf(int a, int b) {
            for (int k = 0; k < count; k++) {
                if (firsts[k] == a && seconds[k] == b || firsts[k] == b && seconds[k] == a) {
                    return k;
                }
            }
            return NONE;
        }

        int beforeBits() {
            int bits = 0;
            for (int k = 0; k < count; k++) {
                if (kinds[k] == BEFORE) {
                    bits |= 1 << k;
                }
            }
            return bits;
        }

        void add(int kind, int a, int b) {
            if (count < MOST_FACTS) {
                kinds[count] = kind;
                firsts[count] = a;
                seconds[count] = b;
                count++;
            }
        }

        void remove(int k) {
            int had = count;
            count = k;
            for (int i = k + 1; i < had; i++) {
                add(kinds[i], firsts[i], seconds[i]);
            }
        }

        void removeItem(int item) {
            int had = count;
            count = 0;
            for (int k = 0; k < had; k++) {
                int a = firsts[k];
                int b = seconds[k];
                if (a != item && b != item) {
                    add(kinds[k], a > item ? a - 1 : a, b > item ? b - 1 : b);
                }
            }
            items--;
        }

        int turnBefores() {
            int turned = 0;
            for (int k = 0; k < count; k++) {
                if (kinds[k] == BEFORE) {
                    int a = firsts[k];
                    firsts[k] = seconds[k];
                    seconds[k] = a;
                    turned++;
                }
            }
            return turned;
        }
    }

    /** What acts can be undone: the facts as they were ahead of each, the oldest first. */
    private static final class Past {
        int count;
        private final Facts[] kept = new Facts[MOST_ACTS];

        Past() {
            for (int i = 0; i < MOST_ACTS; i++) {
                kept[i] = new Facts();
            }
        }

        void push(Facts facts) {
            if (count == MOST_ACTS) {
                forgetOldest();
            }
            kept[count].copyFrom(facts);
            count++;
        }

        void popInto(Facts facts) {
            if (count > 0) {
                count--;
                facts.copyFrom(kept[count]);
            }
        }

        private void forgetOldest() {
            Facts oldest = kept[0];
            for (int i = 0; i + 1 < MOST_ACTS; i++) {
                kept[i] = kept[i + 1];
            }
            kept[MOST_ACTS - 1] = oldest;
            count--;
        }
    }

    /**
     * The greatest sum along any row of facts from each item to each other one.
     * Weighed 1 (before) and -1 (beside) it tells what is refuted: a ring whose sum is not below 0 refutes.
     * Stretched by a length it tells how far the one must lie behind the other at least.
     */
    private static final class Reach {
        private int items;
        private final int[] most = new int[CELLS];

        void copyFrom(Reach other) {
            items = other.items;
            System.arraycopy(other.most, 0, most, 0, CELLS);
        }

        void weigh(Facts facts, int without) {
            lay(facts, without, 1, -1);
            close();
        }

        /** Whether there are spans of the length: no ring may want an item behind itself. */
        boolean stretch(Facts facts, int length) {
            lay(facts, 0, length, 1 - length);
            close();
            for (int v = 0; v < items; v++) {
                if (between(v, v) > 0) {
                    return false;
                }
            }
            return true;
        }

        int between(int a, int b) {
            return most[a * MOST_ITEMS + b];
        }

        /** No number is below 0, so each item lies behind an origin too: the 0 from an item to itself is that. */
        int earliest(int item) {
            int start = 0;
            for (int u = 0; u < items; u++) {
                start = Math.max(start, between(u, item));
            }
            return start;
        }

        int options(int a, int b) {
            int onward = between(a, b);
            int back = between(b, a);
            int bits = 0;
            if (back + 1 < 0) {
                bits |= MAY_BEFORE;
            }
            if (onward + 1 < 0) {
                bits |= MAY_AFTER;
            }
            if (onward - 1 < 0 && back - 1 < 0) {
                bits |= MAY_BESIDE;
            }
            return bits;
        }

        /** One more fact comes to the weighed ones, which must not be refuted. */
        void join(int kind, int a, int b) {
            if (kind == BEFORE) {
                link(a, b, 1);
            } else {
                link(a, b, -1);
                link(b, a, -1);
            }
        }

        private void lay(Facts facts, int without, int before, int beside) {
            items = facts.items;
            for (int i = 0; i < CELLS; i++) {
                most[i] = i / MOST_ITEMS == i % MOST_ITEMS ? 0 : NO_WAY;
            }
            for (int k = 0; k < facts.count; k++) {
                if ((without >> k & 1) == 0) {
                    int onward = facts.firsts[k] * MOST_ITEMS + facts.seconds[k];
                    if (facts.kinds[k] == BEFORE) {
                        most[onward] = before;
                    } else {
                        most[onward] = beside;
                        most[facts.seconds[k] * MOST_ITEMS + facts.firsts[k]] = beside;
                    }
                }
            }
        }

        private void close() {
            for (int m = 0; m < items; m++) {
                for (int u = 0; u < items; u++) {
                    if (u != m && between(u, m) != NO_WAY) {
                        raiseRow(u, between(u, m), m);
                    }
                }
            }
        }

        private void link(int a, int b, int weight) {
            for (int u = 0; u < items; u++) {
                if (between(u, a) != NO_WAY) {
                    raiseRow(u, between(u, a) + weight, b);
                }
            }
        }

        /** All that can be reached from item m can be reached from u with so much more. */
        private void raiseRow(int u, int more, int m) {
            int from = u * MOST_ITEMS;
            int over = m * MOST_ITEMS;
            for (int v = 0; v < items; v++) {
                int rest = most[over + v];
                if (rest != NO_WAY && more + rest > most[from + v]) {
                    most[from + v] = more + rest;
                }
            }
        }
    }

    /** The ring that refutes a fact; it stays as it is when a fact is not refuted. */
    private static final class Ring {
        int size;
        int befores;
        int from;
        int to;
        final int[] row = new int[MOST_ITEMS];
        /** By so many facts, from each item: the greatest sum of a row that ends where the ring begins. */
        private final int[] sums = new int[CELLS];

        boolean seek(Facts facts, int without, int kind, int a, int b) {
            int back = kind == BESIDE ? fewest(facts, without, kind, b, a) : 0;
            int onward = fewest(facts, without, kind, a, b);
            if (onward != 0 && (back == 0 || onward <= back)) {
                trace(facts, without, kind, a, b, onward);
                return true;
            }
            if (back == 0) {
                return false;
            }
            fewest(facts, without, kind, b, a);
            trace(facts, without, kind, b, a, back);
            return true;
        }

        int bits() {
            int bits = 0;
            for (int i = 0; i + 1 < size; i++) {
                bits |= 1 << row[i];
            }
            return bits;
        }

        /** Of how many facts the shortest ring is that goes by a new one from a to b, this one left out; 0: none. */
        private int fewest(Facts facts, int without, int kind, int a, int b) {
            Arrays.fill(sums, NO_WAY);
            sums[a] = 0;
            for (int n = 1; n < facts.items; n++) {
                for (int k = 0; k < facts.count; k++) {
                    if ((without >> k & 1) == 0) {
                        raise(n, facts.firsts[k], facts.seconds[k], weight(facts.kinds[k]));
                        if (facts.kinds[k] == BESIDE) {
                            raise(n, facts.seconds[k], facts.firsts[k], weight(BESIDE));
                        }
                    }
                }
                int sum = sums[n * MOST_ITEMS + b];
                if (sum != NO_WAY && sum + weight(kind) >= 0) {
                    return n;
                }
            }
            return 0;
        }

        private void raise(int n, int u, int v, int weight) {
            int rest = sums[(n - 1) * MOST_ITEMS + v];
            int here = n * MOST_ITEMS + u;
            if (rest != NO_WAY && rest + weight > sums[here]) {
                sums[here] = rest + weight;
            }
        }

        private void trace(Facts facts, int without, int kind, int a, int b, int n) {
            size = n + 1;
            befores = kind == BEFORE ? 1 : 0;
            from = a;
            to = b;
            int at = b;
            int sum = weight(kind);
            for (int i = 0; i < n; i++) {
                int k = firstStep(facts, without, at, sum, n - 1 - i);
                if (k == NONE) {
                    return;
                }
                row[i] = k;
                sum += weight(facts.kinds[k]);
                befores += facts.kinds[k] == BEFORE ? 1 : 0;
                at = facts.target(k, at);
            }
        }

        /** The least fact by which the ring can go on so that it still refutes with so many facts left behind it. */
        private int firstStep(Facts facts, int without, int at, int sum, int left) {
            for (int k = 0; k < facts.count; k++) {
                int next = (without >> k & 1) == 0 ? facts.target(k, at) : NONE;
                if (next != NONE) {
                    int rest = sums[left * MOST_ITEMS + next];
                    if (rest != NO_WAY && sum + weight(facts.kinds[k]) + rest >= 0) {
                        return k;
                    }
                }
            }
            return NONE;
        }

        private static int weight(int kind) {
            return kind == BEFORE ? 1 : -1;
        }
    }

    /** The order of the items by where they begin at the earliest by the least length. */
    private static final class Order {
        int least;
        int rooms;
        final int[] roomOf = new int[MOST_ITEMS];
        final int[] profile = new int[MOST_ITEMS];
        private int items;
        private final int[] starts = new int[MOST_ITEMS];
        private final int[] queue = new int[MOST_ITEMS];
        private final Reach spans = new Reach();

        void lay(Facts facts) {
            items = facts.items;
            least = 1;
            while (least < LONGEST && !spans.stretch(facts, least)) {
                least++;
            }
            for (int v = 0; v < items; v++) {
                starts[v] = spans.earliest(v);
            }
        }

        boolean precedes(int a, int b) {
            return starts[a] + least <= starts[b];
        }

        /** The most items of which each two are in order (chained), or none are, as bits; of like ones the least. */
        int greatestSet(boolean chained) {
            int best = 0;
            for (int set = 1; set < 1 << items; set++) {
                if (Integer.bitCount(set) > Integer.bitCount(best) && isUniform(set, chained)) {
                    best = set;
                }
            }
            return best;
        }

        private boolean isUniform(int set, boolean chained) {
            for (int a = 0; a < items; a++) {
                for (int b = a + 1; b < items; b++) {
                    boolean both = (set >> a & 1) == 1 && (set >> b & 1) == 1;
                    if (both && (precedes(a, b) || precedes(b, a)) != chained) {
                        return false;
                    }
                }
            }
            return true;
        }

        void fillRooms() {
            rooms = 0;
            fillQueue();
            for (int i = 0; i < items; i++) {
                int free = 0;
                while (free < rooms && !isFree(free, i)) {
                    free++;
                }
                roomOf[queue[i]] = free;
                rooms = Math.max(rooms, free + 1);
            }
        }

        /** Whether all that went to a room ahead of the i-th of the queue are in order ahead of it. */
        private boolean isFree(int number, int i) {
            for (int j = 0; j < i; j++) {
                if (roomOf[queue[j]] == number && !precedes(queue[j], queue[i])) {
                    return false;
                }
            }
            return true;
        }

        private void fillQueue() {
            for (int v = 0; v < items; v++) {
                int at = v;
                while (at > 0 && starts[queue[at - 1]] > starts[v]) {
                    queue[at] = queue[at - 1];
                    at--;
                }
                queue[at] = v;
            }
        }

        void fillProfile() {
            for (int v = 0; v < items; v++) {
                int aheadOfIt = 0;
                for (int u = 0; u < items; u++) {
                    aheadOfIt += precedes(u, v) ? 1 : 0;
                }
                int at = v;
                while (at > 0 && profile[at - 1] > aheadOfIt) {
                    profile[at] = profile[at - 1];
                    at--;
                }
                profile[at] = aheadOfIt;
            }
        }
    }

    /** Counts in how many ways a fact could be told of each two items of which none is. */
    private static final class Ways {
        private int pairs;
        private final int[] firsts = new int[MOST_FACTS];
        private final int[] seconds = new int[MOST_FACTS];
        private final Reach[] layers = new Reach[MOST_FACTS + 1];

        Ways() {
            for (int i = 0; i <= MOST_FACTS; i++) {
                layers[i] = new Reach();
            }
        }

        int count(Facts facts) {
            pairs = 0;
            for (int a = 0; a < facts.items; a++) {
                for (int b = a + 1; b < facts.items; b++) {
                    if (facts.indexOf(a, b) == NONE && pairs < MOST_FACTS) {
                        firsts[pairs] = a;
                        seconds[pairs] = b;
                        pairs++;
                    }
                }
            }
            layers[0].weigh(facts, 0);
            return Math.min(follow(0, 0, 0), MOST_WAYS);
        }

        /**
         * Of each pair something may be told, so no branch is lost and the count's bound ends the search.
         * Behind the last open pair there is nothing to look at: what may be told of others gets no more.
         */
        private int follow(int pair, int layer, int found) {
            int at = nextOpen(pair, layer);
            if (at >= pairs || layer >= MOST_FACTS) {
                return found + 1;
            }
            int open = optionsOf(at, layer);
            if (nextOpen(at + 1, layer) >= pairs) {
                return found + Integer.bitCount(open);
            }
            int sum = found;
            for (int bit = MAY_BEFORE; bit <= MAY_BESIDE && sum <= MOST_WAYS; bit <<= 1) {
                if ((open & bit) != 0) {
                    sum = branch(at, layer, bit, sum);
                }
            }
            return sum;
        }

        /** Pairs of which but one thing may be told are passed: telling it raises no sum. */
        private int nextOpen(int pair, int layer) {
            int at = pair;
            while (at < pairs && Integer.bitCount(optionsOf(at, layer)) == 1) {
                at++;
            }
            return at;
        }

        private int branch(int pair, int layer, int bit, int found) {
            Reach next = layers[layer + 1];
            next.copyFrom(layers[layer]);
            if (bit == MAY_AFTER) {
                next.join(BEFORE, seconds[pair], firsts[pair]);
            } else {
                next.join(bit == MAY_BEFORE ? BEFORE : BESIDE, firsts[pair], seconds[pair]);
            }
            return follow(pair + 1, layer + 1, found);
        }

        private int optionsOf(int pair, int layer) {
            return layers[layer].options(firsts[pair], seconds[pair]);
        }
    }

    /** Rows of n numbers that do not go down, the i-th i at most, in order. */
    private static final class Shapes {
        static final int MOST = 12;
        private static final int SIDE = MOST + 1;
        /** From place i on, with no number below x: how many rows there are. */
        private final int[] tails = new int[SIDE * SIDE];

        int howMany(int n) {
            fillTails(n);
            return tails[0];
        }

        int rankOf(int[] row, int n) {
            fillTails(n);
            int smaller = 0;
            int low = 0;
            for (int i = 0; i < n; i++) {
                for (int x = low; x < row[i]; x++) {
                    smaller += tailAt(i + 1, x);
                }
                low = row[i];
            }
            return smaller;
        }

        void spell(int n, int number, int[] row) {
            fillTails(n);
            int left = number;
            int x = 0;
            for (int i = 0; i < n; i++) {
                while (x < i && left >= tailAt(i + 1, x)) {
                    left -= tailAt(i + 1, x);
                    x++;
                }
                row[i] = x;
            }
        }

        private int tailAt(int i, int x) {
            return tails[i * SIDE + x];
        }

        private void fillTails(int n) {
            for (int x = 0; x < SIDE; x++) {
                tails[n * SIDE + x] = 1;
            }
            for (int i = n - 1; i >= 0; i--) {
                int sum = 0;
                for (int x = i; x >= 0; x--) {
                    sum += tailAt(i + 1, x);
                    tails[i * SIDE + x] = sum;
                }
            }
        }
    }

    /** The bytes fed, of which notes are read. */
    private static final class Tape {
        static final int ROOM = 740;
        static final int PORTION = 20;
        int size;
        final int[] bytes = new int[ROOM];

        void put(int number) {
            for (int shift = 24; shift >= 0 && size < ROOM; shift -= 8) {
                bytes[size] = number >>> shift & 255;
                size++;
            }
        }
    }

    /** Reads notes from the tape into a draft, which is whole just if there is no fault. */
    private static final class Reader {
        private static final int MOST_BYTES = 700;
        private static final int MOST_LETTERS = 7;

        private static final int END = 0;
        private static final int WORD = 1;
        private static final int STOP = 2;
        private static final int NOTHING = 3;

        /** Words as numbers, five bits a letter. */
        private static final int LETTER = 32;
        private static final long ITEM_WORD = ((9L * LETTER + 20) * LETTER + 5) * LETTER + 13;
        private static final long BE_WORD = 2L * LETTER + 5;
        private static final long BEFORE_WORD = (((BE_WORD * LETTER + 6) * LETTER + 15) * LETTER + 18) * LETTER + 5;
        private static final long BESIDE_WORD = (((BE_WORD * LETTER + 19) * LETTER + 9) * LETTER + 4) * LETTER + 5;

        int fault;
        final Facts draft = new Facts();
        private int faultPlace;
        private int limit;
        private int place;
        private int next;
        private int token;
        private long word;
        private final long[] names = new long[MOST_ITEMS];
        private final Tape tape;
        private final Ring proof;

        Reader(Tape tape, Ring proof) {
            this.tape = tape;
            this.proof = proof;
        }

        int read() {
            fault = 0;
            next = 0;
            limit = Math.min(tape.size, MOST_BYTES);
            draft.clear();
            int rows = 0;
            step();
            while (rows < MOST_BYTES && token != END && (isItemRow() ? readItem() : readFact())) {
                rows++;
                step();
            }
            if (fault == 0 && tape.size > MOST_BYTES) {
                fail(1, MOST_BYTES);
            }
            return fault == 0 ? rows : -1 - faultPlace;
        }

        private boolean isItemRow() {
            return token == WORD && word == ITEM_WORD;
        }

        private boolean readItem() {
            if (draft.items >= MOST_ITEMS) {
                return fail(3, place);
            }
            step();
            if (!isName()) {
                return fail(1, place);
            }
            if (itemNamed() != NONE) {
                return fail(2, place);
            }
            names[draft.items] = word;
            draft.items++;
            return readStop();
        }

        private boolean readFact() {
            int start = place;
            if (!isName()) {
                return fail(1, place);
            }
            int a = itemNamed();
            if (a == NONE) {
                return fail(2, place);
            }
            step();
            if (token != WORD || word != BEFORE_WORD && word != BESIDE_WORD) {
                return fail(1, place);
            }
            int kind = word == BEFORE_WORD ? BEFORE : BESIDE;
            step();
            if (!isName()) {
                return fail(1, place);
            }
            int b = itemNamed();
            if (b == NONE || b == a || draft.indexOf(a, b) != NONE) {
                return fail(2, place);
            }
            if (!readStop()) {
                return false;
            }
            if (proof.seek(draft, 0, kind, a, b)) {
                return fail(4, start);
            }
            draft.add(kind, a, b);
            return true;
        }

        private boolean readStop() {
            step();
            return token == STOP || fail(1, place);
        }

        private boolean isName() {
            return token == WORD && word != ITEM_WORD && word != BEFORE_WORD && word != BESIDE_WORD;
        }

        private int itemNamed() {
            for (int i = 0; i < draft.items; i++) {
                if (names[i] == word) {
                    return i;
                }
            }
            return NONE;
        }

        private boolean fail(int kind, int where) {
            fault = kind;
            faultPlace = where;
            return false;
        }

        /** The next token; the end lies at the limit even if the token ahead of it went beyond. */
        private void step() {
            while (next < limit && isBlank(tape.bytes[next])) {
                next++;
            }
            if (next >= limit) {
                token = END;
                place = limit;
                return;
            }
            place = next;
            if (isLetter(tape.bytes[next])) {
                readWord();
            } else {
                token = tape.bytes[next] == ';' ? STOP : NOTHING;
                next++;
            }
        }

        private void readWord() {
            word = 0;
            while (next < tape.size && isLetter(tape.bytes[next])) {
                word = word * LETTER + (tape.bytes[next] - 'a' + 1);
                next++;
            }
            token = next - place <= MOST_LETTERS ? WORD : NOTHING;
        }

        private static boolean isBlank(int sign) {
            return sign == ' ' || sign == '\n';
        }

        private static boolean isLetter(int sign) {
            return sign >= 'a' && sign <= 'z';
        }
    }
}
