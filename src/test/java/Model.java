import java.util.ArrayList;
import java.util.List;
import java.util.NoSuchElementException;

/**
 * The document read as literally as can be, however slow: spans are found by raising numbers until all
 * facts hold, rings by trying every row of facts, shapes by writing all of them down.
 */
final class Model {
    static final int NONE = -1;
    static final int HIDDEN = -1000000;
    private static final int TRIED_LENGTH = 12;

    private static final class Told {
        final int kind;
        final int a;
        final int b;

        Told(int kind, int a, int b) {
            this.kind = kind;
            this.a = a;
            this.b = b;
        }

        boolean isOf(int u, int v) {
            return a == u && b == v || a == v && b == u;
        }
    }

    private static final class State {
        int items;
        List<Told> facts = new ArrayList<>();

        State copy() {
            State s = new State();
            s.items = items;
            s.facts = new ArrayList<>(facts);
            return s;
        }
    }

    private static final class Fault extends RuntimeException {
        private static final long serialVersionUID = 1L;
        final int kind;
        final int place;

        Fault(int kind, int place) {
            this.kind = kind;
            this.place = place;
        }
    }

    private State now = new State();
    private final List<State> past = new ArrayList<>();
    private final State[] images = new State[2];
    private String tape = "";
    private int fault = 0;
    private List<Integer> ringFacts = null;
    private int ringBefores;
    private int ringFrom;
    private int ringTo;
    private int seed;

    // ---- the tape ----

    int feed(int a, int b, int c, int d, int e) {
        if (tape.length() + 20 > 740) {
            return NONE;
        }
        StringBuilder s = new StringBuilder(tape);
        for (int n : new int[] {a, b, c, d, e}) {
            s.append((char) (n >> 24 & 255)).append((char) (n >> 16 & 255));
            s.append((char) (n >> 8 & 255)).append((char) (n & 255));
        }
        tape = s.toString();
        return tape.length();
    }

    boolean end(int n) {
        if (n < 0 || n > tape.length()) {
            return false;
        }
        tape = tape.substring(0, n);
        return true;
    }

    int notes() {
        String text = tape;
        tape = "";
        fault = 0;
        try {
            List<String> words = new ArrayList<>();
            List<Integer> places = new ArrayList<>();
            split(text, words, places);
            State s = new State();
            int rows = readRows(words, places, s);
            now = s;
            past.clear();
            return rows;
        } catch (Fault f) {
            fault = f.kind;
            return -1 - f.place;
        }
    }

    /** All tokens that begin ahead of 700; "" is the end, "?" is no token. */
    private static void split(String text, List<String> words, List<Integer> places) {
        int i = 0;
        while (i < text.length() && i < 700) {
            char c = text.charAt(i);
            if (c == 32 || c == 10) {
                i++;
                continue;
            }
            int j = i;
            while (j < text.length() && Character.toString(text.charAt(j)).matches("[a-z]")) {
                j++;
            }
            String w = j > i ? text.substring(i, j) : c == ';' ? ";" : "?";
            words.add(w.length() > 7 ? "?" : w);
            places.add(i);
            i = Math.max(j, i + 1);
        }
        words.add(text.length() > 700 ? "!" : "");
        places.add(Math.min(700, text.length()));
    }

    private int readRows(List<String> w, List<Integer> p, State s) {
        List<String> names = new ArrayList<>();
        int i = 0;
        int rows = 0;
        while (!w.get(i).isEmpty()) {
            if (w.get(i).equals("item")) {
                if (names.size() == 8) {
                    throw new Fault(3, p.get(i));
                }
                wantName(w, p, i + 1);
                if (names.contains(w.get(i + 1))) {
                    throw new Fault(2, p.get(i + 1));
                }
                wantStop(w, p, i + 2);
                names.add(w.get(i + 1));
                s.items++;
                i += 3;
            } else {
                readFact(w, p, i, s, names);
                i += 4;
            }
            rows++;
        }
        return rows;
    }

    private void readFact(List<String> w, List<Integer> p, int i, State s, List<String> names) {
        wantName(w, p, i);
        int a = names.indexOf(w.get(i));
        if (a < 0) {
            throw new Fault(2, p.get(i));
        }
        if (!w.get(i + 1).equals("before") && !w.get(i + 1).equals("beside")) {
            throw new Fault(1, p.get(i + 1));
        }
        wantName(w, p, i + 2);
        int b = names.indexOf(w.get(i + 2));
        if (b < 0 || a == b || factOf(s, a, b) >= 0) {
            throw new Fault(2, p.get(i + 2));
        }
        wantStop(w, p, i + 3);
        Told t = new Told(w.get(i + 1).equals("before") ? 0 : 1, a, b);
        if (isRefuted(s, t)) {
            keepRing(s, t);
            throw new Fault(4, p.get(i));
        }
        s.facts.add(t);
    }

    private static void wantName(List<String> w, List<Integer> p, int i) {
        String s = w.get(i);
        if (!s.matches("[a-z]+") || s.equals("item") || s.equals("before") || s.equals("beside")) {
            throw new Fault(1, p.get(i));
        }
    }

    private static void wantStop(List<String> w, List<Integer> p, int i) {
        if (!w.get(i).equals(";")) {
            throw new Fault(1, p.get(i));
        }
    }

    int fault() {
        return fault;
    }

    // ---- spans, by raising numbers ----

    /** The least numbers from these on by which all facts hold; null if they go up for ever. */
    private static int[] raised(State s, int length, int[] low) {
        int[] x = low.clone();
        for (int round = 0; round <= s.items + 1; round++) {
            boolean moved = false;
            for (Told t : s.facts) {
                if (t.kind == 0) {
                    if (x[t.a] + length > x[t.b]) {
                        x[t.b] = x[t.a] + length;
                        moved = true;
                    }
                } else {
                    if (x[t.a] - x[t.b] >= length) {
                        x[t.b] = x[t.a] - length + 1;
                        moved = true;
                    }
                    if (x[t.b] - x[t.a] >= length) {
                        x[t.a] = x[t.b] - length + 1;
                        moved = true;
                    }
                }
            }
            if (!moved) {
                return x;
            }
        }
        return null;
    }

    private static int[] begins(State s, int length) {
        return length < 1 ? null : raised(s, length, new int[s.items]);
    }

    private static int least(State s) {
        int length = 1;
        while (begins(s, length) == null) {
            length++;
        }
        return length;
    }

    private static boolean isGood(State s) {
        for (int length = 1; length <= TRIED_LENGTH; length++) {
            if (begins(s, length) != null) {
                return true;
            }
        }
        return false;
    }

    private static boolean isRefuted(State s, Told t) {
        State more = s.copy();
        more.facts.add(t);
        return !isGood(more);
    }

    // ---- rings, by trying every row ----

    private void keepRing(State s, Told t) {
        for (int n = 1; n <= 12; n++) {
            for (int way = 0; way <= t.kind; way++) {
                int from = way == 0 ? t.a : t.b;
                int to = way == 0 ? t.b : t.a;
                List<Integer> row = new ArrayList<>();
                int sum = t.kind == 0 ? 1 : -1;
                if (tryRow(s, to, from, n, sum, row)) {
                    ringFacts = row;
                    ringFrom = from;
                    ringTo = to;
                    ringBefores = t.kind == 0 ? 1 : 0;
                    for (int k : row) {
                        ringBefores += s.facts.get(k).kind == 0 ? 1 : 0;
                    }
                    return;
                }
            }
        }
        throw new IllegalStateException("no ring refutes");
    }

    private static boolean tryRow(State s, int at, int home, int left, int sum, List<Integer> row) {
        if (left == 0) {
            return at == home && sum >= 0;
        }
        if (sum + left < 0) {
            return false;
        }
        for (int k = 0; k < s.facts.size(); k++) {
            Told t = s.facts.get(k);
            int next = t.a == at ? t.b : t.kind == 1 && t.b == at ? t.a : NONE;
            if (next != NONE) {
                row.add(k);
                if (tryRow(s, next, home, left - 1, sum + (t.kind == 0 ? 1 : -1), row)) {
                    return true;
                }
                row.remove(row.size() - 1);
            }
        }
        return false;
    }

    // ---- plain answers ----

    private boolean isItem(int i) {
        return i >= 0 && i < now.items;
    }

    private static int factOf(State s, int a, int b) {
        for (int k = 0; k < s.facts.size(); k++) {
            if (s.facts.get(k).isOf(a, b)) {
                return k;
            }
        }
        return NONE;
    }

    int now(int what) {
        int bits = 0;
        for (int k = 0; k < now.facts.size(); k++) {
            bits += now.facts.get(k).kind == 0 ? 1 << k : 0;
        }
        int[] all = {now.items, now.facts.size(), bits, least(now), past.size(), tape.length()};
        return what >= 0 && what <= 5 ? all[what] : NONE;
    }

    int fact(int k, int what) {
        if (k < 0 || k >= now.facts.size() || what < 0 || what > 2) {
            throw new NoSuchElementException();
        }
        Told t = now.facts.get(k);
        return new int[] {t.kind, t.a, t.b}[what];
    }

    int about(int a, int b) {
        return isItem(a) && isItem(b) && a != b ? factOf(now, a, b) : NONE;
    }

    private boolean canName(int kind, int a, int b) {
        return (kind == 0 || kind == 1) && isItem(a) && isItem(b) && a != b && factOf(now, a, b) == NONE;
    }

    private void keep(State before) {
        past.add(before);
        if (past.size() > 8) {
            past.remove(0);
        }
    }

    int tell(int kind, int a, int b) {
        if (!canName(kind, a, b)) {
            return NONE;
        }
        Told t = new Told(kind, a, b);
        if (isRefuted(now, t)) {
            keepRing(now, t);
            return -2;
        }
        keep(now.copy());
        now.facts.add(t);
        return now.facts.size() - 1;
    }

    int refuted(int what) {
        if (ringFacts == null || what < 0 || what > 3) {
            return NONE;
        }
        return new int[] {ringFacts.size() + 1, ringBefores, ringFrom, ringTo}[what];
    }

    int ring(int i) {
        return ringFacts != null && i >= 1 && i <= ringFacts.size() ? ringFacts.get(i - 1) : NONE;
    }

    int forget(int k) {
        if (k < 0 || k >= now.facts.size()) {
            return NONE;
        }
        keep(now.copy());
        now.facts.remove(k);
        return now.facts.size();
    }

    private int[] spans(int length) {
        return length < 1 || length > 60 ? null : begins(now, length);
    }

    int begin(int item, int length) {
        int[] x = spans(length);
        return isItem(item) && x != null ? x[item] : NONE;
    }

    /** Whether x of b less x of a can be at most t, all facts holding. */
    private boolean canBeWithin(int a, int b, int length, int t) {
        int[] x = new int[now.items];
        for (int round = 0; round < 50; round++) {
            x = raised(now, length, x);
            if (x == null) {
                return false;
            }
            if (x[b] - x[a] <= t) {
                return true;
            }
            x[a] = x[b] - t;
        }
        return false;
    }

    int gap(int a, int b, int length, int what) {
        if (!isItem(a) || !isItem(b) || spans(length) == null || what < 0 || what > 1) {
            return HIDDEN;
        }
        int u = what == 0 ? a : b;
        int v = what == 0 ? b : a;
        if (canBeWithin(u, v, length, -5000)) {
            return HIDDEN;
        }
        int low = -5000;
        int high = 5000;
        while (high - low > 1) {
            int mid = Math.floorDiv(low + high, 2);
            if (canBeWithin(u, v, length, mid)) {
                high = mid;
            } else {
                low = mid;
            }
        }
        return what == 0 ? high : -high;
    }

    int tight(int length) {
        int[] x = spans(length);
        if (x == null) {
            return NONE;
        }
        int bits = 0;
        for (int k = 0; k < now.facts.size(); k++) {
            Told t = now.facts.get(k);
            boolean is = t.kind == 0 ? x[t.a] + length == x[t.b]
                : x[t.a] == x[t.b] + length - 1 || x[t.b] == x[t.a] + length - 1;
            bits += is ? 1 << k : 0;
        }
        return bits;
    }

    int may(int a, int b) {
        if (!isItem(a) || !isItem(b) || a == b) {
            return NONE;
        }
        State s = now.copy();
        s.facts.removeIf(t -> t.isOf(a, b));
        return (isRefuted(s, new Told(0, a, b)) ? 0 : 1) + (isRefuted(s, new Told(0, b, a)) ? 0 : 2)
            + (isRefuted(s, new Told(1, a, b)) ? 0 : 4);
    }

    int ways() {
        return Math.min(999, ways(now, 0));
    }

    private static int ways(State s, int found) {
        if (found > 999) {
            return found;
        }
        for (int a = 0; a < s.items; a++) {
            for (int b = a + 1; b < s.items; b++) {
                if (factOf(s, a, b) == NONE) {
                    int sum = found;
                    Told[] all = {new Told(0, a, b), new Told(0, b, a), new Told(1, a, b)};
                    for (Told t : all) {
                        if (!isRefuted(s, t)) {
                            State more = s.copy();
                            more.facts.add(t);
                            sum = ways(more, sum);
                        }
                    }
                    return sum;
                }
            }
        }
        return found + 1;
    }

    int test(int kind, int a, int b) {
        if (!canName(kind, a, b)) {
            return NONE;
        }
        Told t = new Told(kind, a, b);
        if (!isRefuted(now, t)) {
            return 0;
        }
        keepRing(now, t);
        return ringFacts.size() + 1;
    }

    private boolean frees(int bits, Told t) {
        State s = new State();
        s.items = now.items;
        for (int k = 0; k < now.facts.size(); k++) {
            if ((bits >> k & 1) == 0) {
                s.facts.add(now.facts.get(k));
            }
        }
        return !isRefuted(s, t);
    }

    int yields(int kind, int a, int b) {
        if (!canName(kind, a, b)) {
            return NONE;
        }
        Told t = new Told(kind, a, b);
        if (frees(0, t)) {
            return 0;
        }
        int n = now.facts.size();
        for (int i = 0; i < n; i++) {
            if (frees(1 << i, t)) {
                return 1 << i;
            }
        }
        for (int j = 0; j < n; j++) {
            for (int i = 0; i < j; i++) {
                if (frees(1 << i | 1 << j, t)) {
                    return 1 << i | 1 << j;
                }
            }
        }
        for (int k = 0; k < n; k++) {
            for (int j = 0; j < k; j++) {
                for (int i = 0; i < j; i++) {
                    if (frees(1 << i | 1 << j | 1 << k, t)) {
                        return 1 << i | 1 << j | 1 << k;
                    }
                }
            }
        }
        return -2;
    }

    int idle() {
        int bits = 0;
        for (int k = 0; k < now.facts.size(); k++) {
            Told t = now.facts.get(k);
            int own = t.kind == 0 ? 1 : 4;
            bits += (may(t.a, t.b) & ~own) == 0 ? 1 << k : 0;
        }
        return bits;
    }

    int late(int item, int length, int w) {
        if (!isItem(item) || w < 0 || w > 999 || spans(length) == null) {
            return NONE;
        }
        for (int x = w; x >= 0; x--) {
            int[] low = new int[now.items];
            low[item] = x;
            int[] got = raised(now, length, low);
            boolean fits = got != null && got[item] == x;
            for (int v = 0; fits && v < now.items; v++) {
                fits = got[v] <= w;
            }
            if (fits) {
                return x;
            }
        }
        return NONE;
    }

    // ---- the order ----

    private boolean precedes(int a, int b) {
        int length = least(now);
        int[] x = begins(now, length);
        return x[a] + length <= x[b];
    }

    int ahead(int a, int b) {
        return isItem(a) && isItem(b) ? precedes(a, b) ? 1 : 0 : NONE;
    }

    private int setBits(boolean chain) {
        boolean[][] apart = new boolean[8][8];
        for (int a = 0; a < now.items; a++) {
            for (int b = 0; b < now.items; b++) {
                apart[a][b] = precedes(a, b) || precedes(b, a);
            }
        }
        int best = 0;
        for (int set = (1 << now.items) - 1; set >= 0; set--) {
            boolean is = true;
            for (int a = 0; a < 8; a++) {
                for (int b = 0; b < a; b++) {
                    is &= (set >> a & set >> b & 1) == 0 || apart[a][b] == chain;
                }
            }
            if (is && Integer.bitCount(set) >= Integer.bitCount(best)) {
                best = set;
            }
        }
        return best;
    }

    int chain(int what) {
        return what == 0 ? Integer.bitCount(setBits(true)) : what == 1 ? setBits(true) : NONE;
    }

    int crowd(int what) {
        return what == 0 ? Integer.bitCount(setBits(false)) : what == 1 ? setBits(false) : NONE;
    }

    int room(int item) {
        if (item != NONE && !isItem(item)) {
            return NONE;
        }
        int[] x = begins(now, least(now));
        List<List<Integer>> rooms = new ArrayList<>();
        int answer = NONE;
        for (int start = 0; start < 100; start++) {
            for (int v = 0; v < now.items; v++) {
                if (x[v] == start) {
                    int r = 0;
                    while (r < rooms.size() && !allPrecede(rooms.get(r), v)) {
                        r++;
                    }
                    if (r == rooms.size()) {
                        rooms.add(new ArrayList<>());
                    }
                    rooms.get(r).add(v);
                    answer = v == item ? r : answer;
                }
            }
        }
        return item == NONE ? rooms.size() : answer;
    }

    private boolean allPrecede(List<Integer> them, int v) {
        for (int u : them) {
            if (!precedes(u, v)) {
                return false;
            }
        }
        return true;
    }

    private List<Integer> shapeRow() {
        List<Integer> row = new ArrayList<>();
        for (int v = 0; v < now.items; v++) {
            int count = 0;
            for (int u = 0; u < now.items; u++) {
                count += precedes(u, v) ? 1 : 0;
            }
            row.add(count);
        }
        row.sort(null);
        return row;
    }

    int shape(int i) {
        return isItem(i) ? shapeRow().get(i) : NONE;
    }

    private static List<List<Integer>> allShapes(int n) {
        List<List<Integer>> all = new ArrayList<>();
        List<Integer> none = new ArrayList<>();
        all.add(none);
        for (int i = 0; i < n; i++) {
            List<List<Integer>> longer = new ArrayList<>();
            for (List<Integer> row : all) {
                for (int x = i == 0 ? 0 : row.get(i - 1); x <= i; x++) {
                    List<Integer> more = new ArrayList<>(row);
                    more.add(x);
                    longer.add(more);
                }
            }
            all = longer;
        }
        return all;
    }

    int rank() {
        return allShapes(now.items).indexOf(shapeRow());
    }

    int shapes(int n) {
        return n < 0 || n > 12 ? NONE : allShapes(n).size();
    }

    // ---- acts ----

    int make(int n, int rank) {
        if (n < 1 || n > 8 || rank < 0 || rank >= allShapes(n).size()) {
            return NONE;
        }
        List<Integer> row = allShapes(n).get(rank);
        keep(now);
        now = new State();
        now.items = n;
        for (int a = 0; a < n; a++) {
            for (int b = a + 1; b < n; b++) {
                now.facts.add(new Told(a < row.get(b) ? 0 : 1, a, b));
            }
        }
        return now.facts.size();
    }

    int finish() {
        State before = now.copy();
        int told = 0;
        for (int a = 0; a < now.items; a++) {
            for (int b = a + 1; b < now.items; b++) {
                if (factOf(now, a, b) == NONE) {
                    Told t = new Told(0, a, b);
                    t = isRefuted(now, t) ? new Told(0, b, a) : t;
                    t = isRefuted(now, t) ? new Told(1, a, b) : t;
                    now.facts.add(t);
                    told++;
                }
            }
        }
        if (told > 0) {
            keep(before);
        }
        return told;
    }

    int grow() {
        if (now.items == 8) {
            return NONE;
        }
        keep(now.copy());
        return now.items++;
    }

    int drop(int item) {
        if (!isItem(item)) {
            return NONE;
        }
        State s = new State();
        s.items = now.items - 1;
        for (Told t : now.facts) {
            if (t.a != item && t.b != item) {
                s.facts.add(new Told(t.kind, t.a - (t.a > item ? 1 : 0), t.b - (t.b > item ? 1 : 0)));
            }
        }
        keep(now);
        now = s;
        return s.items;
    }

    int turn() {
        State s = new State();
        s.items = now.items;
        int count = 0;
        for (Told t : now.facts) {
            s.facts.add(t.kind == 0 ? new Told(0, t.b, t.a) : t);
            count += t.kind == 0 ? 1 : 0;
        }
        if (count > 0) {
            keep(now);
            now = s;
        }
        return count;
    }

    private int draw(int n) {
        seed = (int) (seed * 1103515245L + 12345L);
        return (seed >>> 8) % n;
    }

    int drawn(int n, int s) {
        if (n < 1 || n > 60) {
            return NONE;
        }
        State before = now.copy();
        seed = s;
        int done = 0;
        for (int i = 0; i < n; i++) {
            if (draw(8) == 0) {
                if (!now.facts.isEmpty()) {
                    now.facts.remove(draw(now.facts.size()));
                    done++;
                }
            } else if (now.items >= 2) {
                int a = draw(now.items);
                int b = draw(now.items - 1);
                b += b >= a ? 1 : 0;
                Told t = new Told(draw(2), a, b);
                if (factOf(now, a, b) == NONE && !isRefuted(now, t)) {
                    now.facts.add(t);
                    done++;
                }
            }
        }
        if (done > 0) {
            keep(before);
        }
        return done;
    }

    int undo() {
        if (past.isEmpty()) {
            return NONE;
        }
        now = past.remove(past.size() - 1);
        return past.size();
    }

    boolean image(int k) {
        if (k != 0 && k != 1) {
            return false;
        }
        images[k] = now.copy();
        return true;
    }

    boolean restore(int k) {
        if (k != 0 && k != 1 || images[k] == null) {
            return false;
        }
        now = images[k].copy();
        past.clear();
        return true;
    }
}
