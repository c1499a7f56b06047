/** Counts answers that are not as due, and tells them. */
final class Check {
    private static int calls = 0;
    private static int wrong = 0;
    private static String topic = "";

    private Check() {
    }

    /** What the answers that follow are about; it is told ahead of each wrong one. */
    static void topic(String text) {
        topic = text.isEmpty() ? "" : text + ": ";
    }

    static void due(String call, long got, long want) {
        calls++;
        if (got != want) {
            wrong++;
            if (wrong <= 50) {
                System.out.println(topic + call + " answered " + got + ", due is " + want);
            }
        }
    }

    static void due(String call, boolean got, boolean want) {
        due(call, got ? 1 : 0, want ? 1 : 0);
    }

    static int wrongOnes() {
        return wrong;
    }

    static void close(String name) {
        System.out.println(name + ": " + calls + " answers, " + wrong + " not as due");
        if (wrong != 0) {
            System.exit(1);
        }
    }

    /** Feeds a text (one sign a byte) and cuts the tape behind it. */
    static void feed(SpanFacts x, String text) {
        int had = x.now(5);
        for (int i = 0; i < text.length(); i += 20) {
            int[] n = portion(text, i);
            x.feed(n[0], n[1], n[2], n[3], n[4]);
        }
        x.end(had + text.length());
    }

    static int[] portion(String text, int from) {
        int[] n = new int[5];
        for (int i = 0; i < 20; i++) {
            int sign = from + i < text.length() ? text.charAt(from + i) & 255 : 0;
            n[i / 4] = n[i / 4] << 8 | sign;
        }
        return n;
    }

    static int notes(SpanFacts x, String text) {
        feed(x, text);
        return x.notes();
    }

    static boolean throwsNoSuch(SpanFacts x, int k, int what) {
        try {
            x.fact(k, what);
            return false;
        } catch (java.util.NoSuchElementException e) {
            return true;
        }
    }

    /** The whole state that the face tells, as one text. */
    static String state(SpanFacts x) {
        StringBuilder s = new StringBuilder();
        s.append(x.now(0)).append(" items");
        for (int k = 0; k < x.now(1); k++) {
            s.append(' ').append(x.fact(k, 0)).append(':').append(x.fact(k, 1)).append(',').append(x.fact(k, 2));
        }
        return s.toString();
    }

    static void dueState(String call, SpanFacts x, String want) {
        dueText(call, state(x), want);
    }

    private static void dueText(String call, String got, String want) {
        calls++;
        if (!got.equals(want)) {
            wrong++;
            System.out.println(topic + call + ": the state is '" + got + "', due is '" + want + "'");
        }
    }

    /** So many items, of which facts are told one by one: 0<1 (0 before 1), 1~2 (beside). */
    static SpanFacts told(int items, String facts) {
        SpanFacts x = new SpanFacts();
        for (int i = 0; i < items; i++) {
            x.grow();
        }
        int k = 0;
        for (String fact : facts.isEmpty() ? new String[0] : facts.split(" ")) {
            int kind = fact.charAt(1) == '<' ? 0 : 1;
            due("telling " + fact, x.tell(kind, fact.charAt(0) - '0', fact.charAt(2) - '0'), k);
            k++;
        }
        return x;
    }

    /** The facts as told() takes them. */
    static String facts(SpanFacts x) {
        StringBuilder s = new StringBuilder();
        for (int k = 0; k < x.now(1); k++) {
            s.append(k == 0 ? "" : " ").append(x.fact(k, 1)).append(x.fact(k, 0) == 0 ? '<' : '~').append(x.fact(k, 2));
        }
        return s.toString();
    }

    static void dueFacts(String call, SpanFacts x, int items, String want) {
        due(call + ": items", x.now(0), items);
        dueText(call, facts(x), want);
    }

    /** What ring() tells, from 1 on. */
    static String ring(SpanFacts x) {
        StringBuilder s = new StringBuilder();
        for (int i = 1; x.ring(i) != SpanFacts.NONE && i < 30; i++) {
            s.append(i == 1 ? "" : " ").append(x.ring(i));
        }
        return s.toString();
    }

    static void dueRing(String call, SpanFacts x, int from, int to, String want) {
        due(call + ": from", x.refuted(2), from);
        due(call + ": to", x.refuted(3), to);
        dueText(call + ", its ring", ring(x), want);
    }

    static String repeat(String s, int times) {
        StringBuilder all = new StringBuilder();
        for (int i = 0; i < times; i++) {
            all.append(s);
        }
        return all.toString();
    }
}
