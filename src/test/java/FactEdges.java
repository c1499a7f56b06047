/** Boundary cases of facts told, refuted and forgotten: the Terms on rings, promises 6 to 12 and 16 to 20. */
final class FactEdges {
    private static final int NONE = SpanFacts.NONE;
    private static final int REFUTED = -2;
    private static final int LOW = Integer.MIN_VALUE;
    private static final int HIGH = Integer.MAX_VALUE;

    private FactEdges() {
    }

    static void run() {
        good();
        ringFromItemToItem();
        ringSteps();
        asManyBeforeAsBeside();
        goodIfNoRing();
        beginsWithIt();
        fewestFacts();
        fromItsFirstItem();
        factByFact();
        nowNumbers();
        nowOfAnother();
        factTold();
        factThrows();
        throwingChangesNothing();
        aboutTwo();
        aboutNone();
        tellNumbers();
        tellRefused();
        tellRefuted();
        refutedLatest();
        refutedCounts();
        refutedItems();
        refutedNone();
        ringNumbers();
        ringNone();
        forgetShifts();
        forgetRefused();
        mayBits();
        mayBesidesOthers();
        mayRefused();
        waysCounted();
        waysAtMost();
        testCould();
        testRefuted();
        testRefused();
        yieldsFewest();
        yieldsLeast();
        yieldsNone();
        yieldsMore();
        idleBits();
    }

    private static int[] odd(int above) {
        return new int[] {LOW, -1000000, -9, -2, -1, above, above + 1, 28, 1000, HIGH};
    }

    private static void good() {
        Sentence.of(0, "FACTS are GOOD, if there are SPANS of some LENGTH by which all hold.");
        SpanFacts x = Check.told(3, "0<1 1~2");
        Check.due("spans of length 2 hold 0~2 too", x.test(1, 0, 2), 0);
        Check.due("0 before 2", x.test(0, 0, 2), 0);
        Check.due("no spans hold 2 before 0 too", x.test(0, 2, 0), 3);
        SpanFacts y = Check.told(7, "0<1 1~2 2<3 3~4 4<5 5~6");
        Check.due("spans of length 4 hold it", y.tell(1, 6, 0), 6);
        Check.due("least", y.now(3), 4);
    }

    private static void ringFromItemToItem() {
        Sentence.of(0, "A RING: a row of FACTS gone one behind the other from ITEM to ITEM, and back at last: ");
        String row = "0<1";
        for (int n = 3; n <= 8; n++) {
            row += " " + (n - 2) + "<" + (n - 1);
            SpanFacts x = Check.told(8, row);
            Check.due("a ring of " + n, x.test(0, n - 1, 0), n);
            Check.dueRing("a ring of " + n, x, n - 1, 0, "0 1 2 3 4 5 6".substring(0, 2 * n - 3));
            Check.due("a row that does not come back", x.test(0, 0, n - 1), 0);
        }
        SpanFacts y = Check.told(4, "0<1 2<3");
        Check.due("two rows that do not meet", y.test(0, 1, 2), 0);
        Check.due("two rows that do not meet", y.test(0, 3, 0), 0);
    }

    private static void ringSteps() {
        Sentence.of(0, "BEFORE from its first ITEM to its second one, BESIDE either way.");
        SpanFacts x = Check.told(3, "0<1 0<2");
        Check.due("not from the second item of before", x.test(0, 1, 2), 0);
        Check.due("not from the second item of before", x.test(0, 2, 1), 0);
        for (String beside : new String[] {"0~1", "1~0"}) {
            SpanFacts y = Check.told(3, beside + " 1<2");
            Check.due(beside + ", from 0", y.test(0, 2, 0), 3);
            Check.dueRing(beside + ", from 0", y, 2, 0, "0 1");
            SpanFacts z = Check.told(3, beside + " 0<2");
            Check.due(beside + ", from 1", z.test(0, 2, 1), 3);
            Check.dueRing(beside + ", from 1", z, 2, 1, "0 1");
        }
    }

    private static void asManyBeforeAsBeside() {
        Sentence.of(0, "It REFUTES, if there are as many BEFORE as BESIDE in it, or more.");
        Check.due("1 of 3", Check.told(3, "0<1 1~2").test(1, 2, 0), 0);
        Check.due("2 of 3", Check.told(3, "0<1 1~2").test(0, 2, 0), 3);
        Check.due("2 of 3", Check.told(3, "0<1 1<2").test(1, 2, 0), 3);
        Check.due("3 of 3", Check.told(3, "0<1 1<2").test(0, 2, 0), 3);
        Check.due("1 of 4", Check.told(4, "0<1 1~2 2~3").test(1, 3, 0), 0);
        Check.due("2 of 4", Check.told(4, "0<1 1~2 2<3").test(1, 3, 0), 4);
        Check.due("2 of 4", Check.told(4, "0<1 1~2 2~3").test(0, 3, 0), 4);
        Check.due("2 of 5", Check.told(5, "0<1 1~2 2<3 3~4").test(1, 4, 0), 0);
        Check.due("3 of 5", Check.told(5, "0<1 1~2 2<3 3~4").test(0, 4, 0), 5);
        Check.due("2 of 6", Check.told(6, "0<1 1~2 2<3 3~4 4~5").test(1, 5, 0), 0);
        Check.due("3 of 6", Check.told(6, "0<1 1~2 2<3 3~4 4<5").test(1, 5, 0), 6);
        Check.due("3 of 7", Check.told(7, "0<1 1~2 2<3 3~4 4<5 5~6").test(1, 6, 0), 0);
        Check.due("4 of 7", Check.told(7, "0<1 1~2 2<3 3~4 4<5 5~6").test(0, 6, 0), 7);
        Check.due("3 of 8", Check.told(8, "0<1 1~2 2<3 3~4 4<5 5~6 6~7").test(1, 7, 0), 0);
        Check.due("4 of 8", Check.told(8, "0<1 1~2 2<3 3~4 4<5 5~6 6<7").test(1, 7, 0), 8);
        Check.due("4 of 8", Check.told(8, "0<1 1~2 2<3 3~4 4<5 5~6 6~7").test(0, 7, 0), 8);
        Check.due("none of 3", Check.told(3, "0~1 1~2").test(1, 2, 0), 0);
    }

    /** All that are told have spans; all that are refuted have a ring that refutes. */
    private static void goodIfNoRing() {
        Sentence.of(0, "(FACTS are GOOD just if no RING REFUTES.)");
        for (int seed = 1; seed <= 40; seed++) {
            SpanFacts x = Check.told(3 + seed % 6, "");
            x.drawn(20, seed * 7919);
            int n = x.now(0);
            for (int i = 0; i < n * n; i++) {
                int a = i / n;
                int b = i % n;
                int kind = i % 2;
                int got = x.test(kind, a, b);
                if (got == 0) {
                    Check.due("tell of what could be told", x.tell(kind, a, b), x.now(1) - 1);
                    Check.due("spans by which all hold", allHold(x, x.now(3)), true);
                    x.forget(x.now(1) - 1);
                } else if (got > 0) {
                    Check.due("a ring that refutes", ringRefutes(x, kind, a, b), true);
                }
            }
        }
    }

    /** Whether the numbers that begin() tells hold all facts. */
    private static boolean allHold(SpanFacts x, int length) {
        for (int k = 0; k < x.now(1); k++) {
            int a = x.begin(x.fact(k, 1), length);
            int b = x.begin(x.fact(k, 2), length);
            boolean holds = x.fact(k, 0) == 0 ? a + length <= b : a - b < length && b - a < length;
            if (!holds || a < 0 || b < 0) {
                return false;
            }
        }
        return true;
    }

    /** Whether refuted() and ring() tell a row of facts that comes back, with as many before as beside, or more. */
    private static boolean ringRefutes(SpanFacts x, int kind, int a, int b) {
        int size = x.refuted(0);
        int befores = kind == 0 ? 1 : 0;
        int at = x.refuted(3);
        if (x.refuted(2) + at != a + b || kind == 0 && at != b) {
            return false;
        }
        for (int i = 1; i < size; i++) {
            int k = x.ring(i);
            boolean onward = x.fact(k, 1) == at;
            if (!onward && (x.fact(k, 0) == 0 || x.fact(k, 2) != at)) {
                return false;
            }
            at = x.fact(k, onward ? 2 : 1);
            befores += x.fact(k, 0) == 0 ? 1 : 0;
        }
        return at == x.refuted(2) && befores == x.refuted(1) && 2 * befores >= size && x.ring(size) == NONE;
    }

    private static void beginsWithIt() {
        Sentence.of(0, "A FACT by which they would not be GOOD any more is REFUTED by the RING that REFUTES and begins with it, ");
        SpanFacts x = Check.told(5, "2<3 3<4 1<2");
        Check.due("refuted", x.tell(0, 4, 1), REFUTED);
        Check.dueRing("from behind it on", x, 4, 1, "2 0 1");
        Check.due("refuted", x.tell(0, 3, 1), REFUTED);
        Check.dueRing("from behind it on", x, 3, 1, "2 0");
        Check.due("not refuted", x.tell(0, 1, 3), 3);
        Check.due("not refuted", x.tell(1, 0, 2), 4);
    }

    private static void fewestFacts() {
        Sentence.of(0, "of the fewest FACTS; ");
        SpanFacts x = Check.told(4, "0<1 1<2 2<3 1<3");
        Check.due("three, not four", x.test(0, 3, 0), 3);
        Check.dueRing("three", x, 3, 0, "0 3");
        SpanFacts y = Check.told(6, "0<1 1<2 2<5 0<3 3<5");
        Check.due("three, though the others are told first", y.test(0, 5, 0), 3);
        Check.dueRing("three", y, 5, 0, "3 4");
        SpanFacts z = Check.told(5, "0<1 1~2 0<3 3<4 4~2");
        Check.due("the shorter one does not refute", z.test(1, 2, 0), 4);
        Check.dueRing("four", z, 2, 0, "2 3 4");
    }

    /** Two such rings, one from each item, would make a ring of the facts ahead that refutes: one at most is there. */
    private static void fromItsFirstItem() {
        Sentence.of(0, "of like ones that which goes from its first ITEM on ahead of that from its second one (BESIDE); ");
        SpanFacts x = Check.told(3, "0<1 1<2");
        Check.due("from its first item", x.test(1, 2, 0), 3);
        Check.dueRing("from its first item", x, 2, 0, "0 1");
        Check.due("from its second item", x.test(1, 0, 2), 3);
        Check.dueRing("from its second item", x, 2, 0, "0 1");
        SpanFacts y = Check.told(4, "3<1 1~2 2<0");
        Check.due("as many beside", y.test(1, 3, 0), 4);
        Check.dueRing("from its second item", y, 0, 3, "0 1 2");
        Check.due("as many beside", y.test(1, 0, 3), 4);
        Check.dueRing("from its first item", y, 0, 3, "0 1 2");
    }

    private static void factByFact() {
        Sentence.of(0, "of these the first (FACT by FACT the least number).");
        dueFirst("0<1 0<2 2<3 1<3", "0 3");
        dueFirst("0<2 0<1 1<3 2<3", "0 3");
        dueFirst("1<3 0<2 2<3 0<1", "1 2");
        dueFirst("2<3 1<3 0<2 0<1", "2 0");
        SpanFacts y = Check.told(5, "0<1 1<3 1<2 2<4 3<4");
        Check.due("the first fact is the same", y.test(0, 4, 0), 4);
        Check.dueRing("the second one is less", y, 4, 0, "0 1 4");
        SpanFacts z = Check.told(4, "0~1 1<3 0<2 2<3");
        Check.due("by the least fact it would not refute", z.test(1, 3, 0), 3);
        Check.dueRing("by the least fact it would not refute", z, 3, 0, "2 3");
        SpanFacts w = Check.told(6, "0~1 1<2 2<5 0<3 3~4 4<5");
        Check.due("by each it does", w.test(0, 5, 0), 4);
        Check.dueRing("the least one", w, 5, 0, "0 1 2");
    }

    private static void dueFirst(String facts, String ring) {
        SpanFacts x = Check.told(4, facts);
        Check.due("two rings with " + facts, x.test(0, 3, 0), 3);
        Check.dueRing("the first with " + facts, x, 3, 0, ring);
    }

    private static void nowNumbers() {
        Sentence.of(6, "0 ITEMS, 1 FACTS, 2 those BEFORE as bits, 3 LEAST, 4 acts that can be undone, 5 bytes of the tape. ");
        dueNow("new", new SpanFacts(), 0, 0, 0, 1, 0, 0);
        dueNow("items alone", Check.told(8, ""), 8, 0, 0, 1, 8, 0);
        SpanFacts x = Check.told(3, "0~1 0<2 2~1");
        x.feed(0, 0, 0, 0, 0);
        x.end(19);
        dueNow("three facts", x, 3, 3, 2, 2, 6, 19);
        x.end(0);
        Check.feed(x, Check.repeat(" ", 740));
        x.make(8, 1429);
        dueNow("all before", x, 8, 28, (1 << 28) - 1, 1, 7, 740);
        x.make(8, 0);
        dueNow("all beside", x, 8, 28, 0, 1, 8, 740);
        x.grow();
        x.drop(0);
        dueNow("eight acts at most", x, 7, 21, 0, 1, 8, 740);
    }

    private static void dueNow(String call, SpanFacts x, int... due) {
        for (int what = 0; what < due.length; what++) {
            Check.due(call + ": now(" + what + ")", x.now(what), due[what]);
        }
    }

    private static void nowOfAnother() {
        Sentence.of(6, "NONE for another what.");
        for (int what : odd(6)) {
            Check.due("now(" + what + ")", new SpanFacts().now(what), NONE);
            Check.due("now(" + what + ")", Check.told(8, "0<1").now(what), NONE);
        }
    }

    private static void factTold() {
        Sentence.of(7, "Of a FACT: 0 its kind (0 BEFORE, 1 BESIDE), 1, 2 its ITEMS. ");
        SpanFacts x = Check.told(8, "7<0 0~6 5~1");
        int[][] due = {{0, 7, 0}, {1, 0, 6}, {1, 5, 1}};
        for (int k = 0; k < 3; k++) {
            for (int what = 0; what < 3; what++) {
                Check.due("fact(" + k + ", " + what + ")", x.fact(k, what), due[k][what]);
            }
        }
        x.make(8, 1429);
        Check.due("fact(27, 0)", x.fact(27, 0), 0);
        Check.due("fact(27, 1)", x.fact(27, 1), 6);
        Check.due("fact(27, 2)", x.fact(27, 2), 7);
    }

    private static void factThrows() {
        Sentence.of(7, "NoSuchElementException: no such ones.");
        dueThrows(new SpanFacts(), 0, 0);
        dueThrows(Check.told(8, ""), 0, 1);
        SpanFacts x = Check.told(3, "0<1 2~1");
        for (int k : odd(2)) {
            for (int what = 0; what < 3; what++) {
                dueThrows(x, k, what);
            }
        }
        for (int what : odd(3)) {
            dueThrows(x, 0, what);
            dueThrows(x, 1, what);
        }
        x.forget(1);
        dueThrows(x, 1, 0);
        x.make(8, 5);
        dueThrows(x, 28, 0);
    }

    private static void dueThrows(SpanFacts x, int k, int what) {
        Check.due("fact(" + k + ", " + what + ") throws", Check.throwsNoSuch(x, k, what), true);
    }

    private static void throwingChangesNothing() {
        Sentence.of(0, "A call that throws changes nothing.");
        SpanFacts x = Check.told(3, "0<1 1<2");
        x.test(0, 2, 0);
        Check.notes(x, "a");
        x.feed(1, 2, 3, 4, 5);
        dueThrows(x, 2, 0);
        dueThrows(x, 0, 3);
        dueNow("all is as it was", x, 3, 2, 3, 1, 5, 20);
        Check.due("fault()", x.fault(), 2);
        Check.dueRing("refuted()", x, 2, 0, "0 1");
        Check.due("fact(1, 2)", x.fact(1, 2), 2);
        Check.due("undo()", x.undo(), 4);
        Check.dueFacts("undo()", x, 3, "0<1");
    }

    private static void aboutTwo() {
        Sentence.of(8, "The FACT of two ITEMS; ");
        SpanFacts x = Check.told(8, "7<0 0~6");
        Check.due("about(7, 0)", x.about(7, 0), 0);
        Check.due("about(0, 7)", x.about(0, 7), 0);
        Check.due("about(0, 6)", x.about(0, 6), 1);
        Check.due("about(6, 0)", x.about(6, 0), 1);
        x.make(8, 9);
        Check.due("about(6, 7)", x.about(6, 7), 27);
        Check.due("about(7, 6)", x.about(7, 6), 27);
        Check.due("about(1, 0)", x.about(1, 0), 0);
    }

    private static void aboutNone() {
        Sentence.of(8, "NONE: none is told, no such ones, one alone.");
        SpanFacts x = Check.told(4, "0<1 2~1");
        Check.due("none is told", x.about(0, 2), NONE);
        Check.due("none is told", x.about(3, 0), NONE);
        for (int o : odd(4)) {
            Check.due("about(" + o + ", 1)", x.about(o, 1), NONE);
            Check.due("about(1, " + o + ")", x.about(1, o), NONE);
            Check.due("about(" + o + ", " + o + ")", x.about(o, o), NONE);
        }
        for (int a = 0; a < 4; a++) {
            Check.due("one alone", x.about(a, a), NONE);
        }
        Check.due("of no items", new SpanFacts().about(0, 1), NONE);
    }

    private static void tellNumbers() {
        Sentence.of(9, "A FACT is told: a is BEFORE (kind 0), BESIDE b (1): its number; ");
        SpanFacts x = Check.told(8, "");
        int k = 0;
        for (int a = 0; a < 8; a++) {
            for (int b = a + 1; b < 8; b++) {
                Check.due("tell " + k, k % 2 == 0 ? x.tell(1, a, b) : x.tell(1, b, a), k);
                k++;
            }
        }
        Check.due("all are told", x.now(1), 28);
        SpanFacts y = Check.told(3, "");
        Check.due("tell", y.tell(0, 2, 0), 0);
        Check.due("tell", y.tell(1, 2, 1), 1);
        Check.dueFacts("tell", y, 3, "2<0 2~1");
        y.forget(0);
        Check.due("tell", y.tell(0, 0, 2), 1);
        Check.dueFacts("behind the others", y, 3, "2~1 0<2");
    }

    /** A call of the face that takes a kind and two items. */
    private interface Ask {
        int of(int kind, int a, int b);
    }

    /** What tell(), test() and yields() refuse alike, with four items of which 0<1 1<2 0<2 is told. */
    private static void dueRefused(SpanFacts x, Ask ask) {
        for (int o : odd(4)) {
            Check.due("of " + o + " and 3", ask.of(0, o, 3), NONE);
            Check.due("of 3 and " + o, ask.of(1, 3, o), NONE);
        }
        for (int kind : odd(2)) {
            Check.due("of kind " + kind, ask.of(kind, 0, 3), NONE);
        }
        for (int kind = 0; kind < 2; kind++) {
            Check.due("one alone", ask.of(kind, 3, 3), NONE);
            Check.due("one is told", ask.of(kind, 0, 1), NONE);
            Check.due("one is told", ask.of(kind, 1, 0), NONE);
            Check.due("one is told, though it would be refuted", ask.of(kind, 2, 0), NONE);
        }
        Check.dueFacts("nothing is told", x, 4, "0<1 1<2 0<2");
        Check.due("acts", x.now(4), 7);
        Check.due("nothing is refuted", x.refuted(0), NONE);
    }

    private static void tellRefused() {
        Sentence.of(9, "NONE: no such ones, one is told; ");
        SpanFacts x = Check.told(4, "0<1 1<2 0<2");
        dueRefused(x, x::tell);
        Check.due("of no items", new SpanFacts().tell(0, 0, 1), NONE);
    }

    private static void tellRefuted() {
        Sentence.of(9, "-2: it is REFUTED.");
        SpanFacts x = Check.told(3, "0<1 1<2");
        Check.due("tell(0, 2, 0)", x.tell(0, 2, 0), REFUTED);
        Check.due("tell(1, 2, 0)", x.tell(1, 2, 0), REFUTED);
        Check.due("tell(1, 0, 2)", x.tell(1, 0, 2), REFUTED);
        Check.dueFacts("nothing is told", x, 3, "0<1 1<2");
        Check.due("acts", x.now(4), 5);
        Check.due("tell(0, 0, 2)", x.tell(0, 0, 2), 2);
        Check.due("as many before as beside", Check.told(4, "0<1 1~2 2<3").tell(1, 3, 0), REFUTED);
        Check.due("fewer before than beside", Check.told(4, "0<1 1~2 2~3").tell(1, 3, 0), 3);
    }

    private static void refutedLatest() {
        Sentence.of(10, "The latest REFUTED one (by notes(), tell(), test()): ");
        SpanFacts x = Check.told(5, "0<1 1<2 2<3");
        x.tell(0, 2, 0);
        Check.dueRing("by tell()", x, 2, 0, "0 1");
        x.test(0, 3, 1);
        Check.dueRing("by test()", x, 3, 1, "1 2");
        Check.notes(x, "item a;item b;item c;c before b;b before a;a beside c;");
        Check.dueRing("by notes()", x, 0, 2, "0 1");
        x.tell(0, 3, 0);
        Check.dueRing("by tell()", x, 3, 0, "0 1 2");
        Check.due("one that is not refuted", x.tell(1, 4, 0), 3);
        Check.dueRing("one that is not refuted", x, 3, 0, "0 1 2");
        x.test(0, 0, 3);
        x.tell(0, 0, 0);
        x.tell(0, 1, 0);
        x.test(0, 1, 0);
        Check.notes(x, "item a;item a;");
        x.yields(0, 2, 0);
        x.may(0, 2);
        x.drawn(30, 3);
        x.finish();
        x.ways();
        x.idle();
        Check.dueRing("no other call tells it", x, 3, 0, "0 1 2");
        x.undo();
        x.turn();
        x.drop(0);
        Check.notes(x, "item a;");
        Check.dueRing("it stays with all acts and new notes", x, 3, 0, "0 1 2");
    }

    private static void refutedCounts() {
        Sentence.of(10, "0 how many FACTS are in the RING, 1 how many of these are BEFORE, ");
        dueCounts(3, "0<1 1<2", 0, 3, 3);
        dueCounts(3, "0<1 1<2", 1, 3, 2);
        dueCounts(3, "0~1 1<2", 0, 3, 2);
        dueCounts(4, "0<1 1~2 2<3", 1, 4, 2);
        dueCounts(4, "0~1 1<2 2~3", 0, 4, 2);
        dueCounts(8, "0<1 1<2 2<3 3<4 4<5 5<6 6<7", 0, 8, 8);
        dueCounts(8, "0<1 1~2 2<3 3~4 4<5 5~6 6<7", 1, 8, 4);
    }

    private static void dueCounts(int n, String facts, int kind, int size, int befores) {
        SpanFacts x = Check.told(n, facts);
        Check.due("tell behind " + facts, x.tell(kind, n - 1, 0), REFUTED);
        Check.due("refuted(0) behind " + facts, x.refuted(0), size);
        Check.due("refuted(1) behind " + facts, x.refuted(1), befores);
    }

    private static void refutedItems() {
        Sentence.of(10, "2, 3 its ITEMS (3: the one to which the RING goes by it).");
        SpanFacts x = Check.told(8, "7<1 1<4");
        for (int kind = 0; kind < 2; kind++) {
            x.tell(kind, 4, 7);
            Check.dueRing("from 4 to 7", x, 4, 7, "0 1");
        }
        x.tell(1, 7, 4);
        Check.dueRing("from 4 to 7, though 7 is its first one", x, 4, 7, "0 1");
    }

    private static void refutedNone() {
        Sentence.of(10, "NONE ahead of any, for another what.");
        SpanFacts x = Check.told(3, "0<1 1<2");
        x.test(0, 0, 2);
        x.tell(0, 0, 0);
        for (int what = 0; what < 4; what++) {
            Check.due("ahead of any: refuted(" + what + ")", x.refuted(what), NONE);
        }
        x.tell(0, 2, 0);
        for (int what : odd(4)) {
            Check.due("refuted(" + what + ")", x.refuted(what), NONE);
        }
    }

    private static void ringNumbers() {
        Sentence.of(11, "The i-th (from 1) FACT of that RING, by the number it had then; ");
        SpanFacts x = Check.told(8, "6<7 5<6 4<5 3<4 2<3 1<2 0<1");
        x.tell(0, 7, 0);
        for (int i = 1; i <= 7; i++) {
            Check.due("ring(" + i + ")", x.ring(i), 7 - i);
        }
        x.forget(0);
        x.drop(3);
        x.undo();
        x.make(1, 0);
        for (int i = 1; i <= 7; i++) {
            Check.due("ring(" + i + "), by the number then", x.ring(i), 7 - i);
        }
        Check.due("refuted(2), by the number then", x.refuted(2), 7);
    }

    private static void ringNone() {
        Sentence.of(11, "NONE: none such (0: the REFUTED one itself).");
        SpanFacts x = Check.told(4, "0<1 1<2 2<3");
        for (int i = -1; i <= 8; i++) {
            Check.due("ahead of any: ring(" + i + ")", x.ring(i), NONE);
        }
        x.test(0, 3, 0);
        Check.due("ring(3)", x.ring(3), 2);
        for (int i : new int[] {LOW, -1, 0, 4, 5, 7, 8, 9, HIGH}) {
            Check.due("ring(" + i + ")", x.ring(i), NONE);
        }
        x.test(0, 2, 0);
        Check.due("ring(2)", x.ring(2), 1);
        Check.due("a shorter ring: ring(3)", x.ring(3), NONE);
    }

    private static void forgetShifts() {
        Sentence.of(12, "A FACT is FORGOTTEN (those behind it are one less): how many are left; ");
        SpanFacts x = Check.told(4, "0<1 1~2 3<2 3~0");
        Check.due("the first", x.forget(0), 3);
        Check.dueFacts("the first", x, 4, "1~2 3<2 3~0");
        Check.due("the last", x.forget(2), 2);
        Check.dueFacts("the last", x, 4, "1~2 3<2");
        Check.due("the first", x.forget(0), 1);
        Check.due("the only one", x.forget(0), 0);
        Check.dueFacts("the only one", x, 4, "");
        SpanFacts y = Check.told(1, "");
        y.make(8, 3);
        for (int left = 27; left >= 0; left--) {
            Check.due("of " + (left + 1), y.forget(left / 2), left);
        }
    }

    private static void forgetRefused() {
        Sentence.of(12, "NONE: no such one.");
        Check.due("of none", new SpanFacts().forget(0), NONE);
        SpanFacts x = Check.told(3, "0<1 2~1");
        for (int k : odd(2)) {
            Check.due("forget(" + k + ")", x.forget(k), NONE);
        }
        Check.dueFacts("nothing is forgotten", x, 3, "0<1 2~1");
        Check.due("acts", x.now(4), 5);
        Check.due("forget(1)", x.forget(1), 1);
        Check.due("forget(1) again", x.forget(1), NONE);
    }

    private static void mayBits() {
        Sentence.of(16, "so that they are GOOD: 1 a BEFORE b, 2 b BEFORE a, 4 BESIDE, together; ");
        dueMay(3, "", 7, 7);
        dueMay(3, "0<2", 7, 7);
        dueMay(3, "0<2 2<1", 1, 2);
        dueMay(3, "0<2 2~1", 5, 6);
        dueMay(3, "0~2 2<1", 5, 6);
        dueMay(3, "0~2 2~1", 7, 7);
        dueMay(4, "0<2 2~3 3<1", 1, 2);
        dueMay(4, "0~2 2<3 3~1", 5, 6);
        dueMay(5, "0~2 2~3 3<4 4~1", 7, 7);
        dueMay(6, "0~2 2<3 3~1 1~4 4<5 5~0", 4, 4);
        dueMay(4, "0<2 2~1 0~3 3<1", 5, 6);
    }

    private static void dueMay(int n, String facts, int onward, int back) {
        SpanFacts x = Check.told(n, facts);
        Check.due("may(0, 1) with " + facts, x.may(0, 1), onward);
        Check.due("may(1, 0) with " + facts, x.may(1, 0), back);
        Check.dueFacts("nothing is told", x, n, facts);
    }

    private static void mayBesidesOthers() {
        Sentence.of(16, "What may be told of two ITEMS besides all other FACTS (not the one of them) ");
        dueMay(3, "0<1", 7, 7);
        dueMay(3, "1~0", 7, 7);
        dueMay(3, "0<1 0<2 2<1", 1, 2);
        dueMay(3, "0<1 0<2 2~1", 5, 6);
        dueMay(3, "1~0 0<2 2~1", 5, 6);
        dueMay(3, "0<2 1~0 2~1", 5, 6);
    }

    private static void mayRefused() {
        Sentence.of(16, "NONE: no such ones, one alone.");
        SpanFacts x = Check.told(3, "0<1");
        for (int o : odd(3)) {
            Check.due("may(" + o + ", 0)", x.may(o, 0), NONE);
            Check.due("may(0, " + o + ")", x.may(0, o), NONE);
            Check.due("may(" + o + ", " + o + ")", x.may(o, o), NONE);
        }
        for (int a = 0; a < 3; a++) {
            Check.due("one alone", x.may(a, a), NONE);
        }
        Check.due("of no items", new SpanFacts().may(0, 1), NONE);
    }

    private static void waysCounted() {
        Sentence.of(17, "In how many ways a FACT could be told of each two ITEMS of which none is, all being GOOD ");
        dueWays(0, "", 1);
        dueWays(1, "", 1);
        dueWays(2, "", 3);
        dueWays(2, "0<1", 1);
        dueWays(3, "", 19);
        dueWays(3, "0<1", 6);
        dueWays(3, "0~1", 7);
        dueWays(3, "0<1 1<2", 1);
        dueWays(3, "0<1 1~2", 2);
        dueWays(3, "0~1 1~2", 3);
        dueWays(4, "", 183);
        SpanFacts x = Check.told(6, "0~2 2<3 3~1 1~4 4<5 5~0");
        x.finish();
        Check.due("all are told by finish()", x.ways(), 1);
        x.make(8, 1429);
        Check.due("all are told", x.ways(), 1);
        x.forget(27);
        Check.due("all but 6 and 7", x.ways(), 3);
        Check.due("facts", x.now(1), 27);
        SpanFacts y = Check.told(4, "");
        int[] due = {1, 1, 3, 19, 183};
        for (int left = 4; left >= 0; left--) {
            Check.due("one object, of " + left, y.ways(), due[left]);
            y.drop(0);
        }
    }

    private static void dueWays(int n, String facts, int due) {
        Check.due("ways() of " + n + " with " + facts, Check.told(n, facts).ways(), due);
    }

    private static void waysAtMost() {
        Sentence.of(17, "(999, if there are more).");
        dueWays(6, "1<4 3<4 5<1 2<4", 981);
        dueWays(6, "0<2 3<1 0<1 3~5", 999);
        dueWays(6, "3<0 2<5 3<5 1~4", 999);
        for (int n = 5; n <= 8; n++) {
            dueWays(n, "", 999);
        }
    }

    private static void testCould() {
        Sentence.of(18, "Whether a FACT (as for tell()) could be told: 0; ");
        SpanFacts x = Check.told(3, "0<1 1<2");
        Check.due("test(0, 0, 2)", x.test(0, 0, 2), 0);
        Check.due("nothing is refuted", x.refuted(0), NONE);
        Check.dueFacts("nothing is told", x, 3, "0<1 1<2");
        Check.due("acts", x.now(4), 5);
        Check.due("of two items", Check.told(2, "").test(0, 0, 1), 0);
        Check.due("of two items", Check.told(2, "").test(1, 1, 0), 0);
    }

    private static void testRefuted() {
        Sentence.of(18, "else how many FACTS are in the RING by which it is REFUTED (it is told by refuted(), ring()); ");
        SpanFacts x = Check.told(4, "0<1 1<2 2~3");
        Check.due("test(0, 2, 0)", x.test(0, 2, 0), 3);
        Check.due("refuted(0)", x.refuted(0), 3);
        Check.due("refuted(1)", x.refuted(1), 3);
        Check.dueRing("test(0, 2, 0)", x, 2, 0, "0 1");
        Check.due("test(1, 0, 3)", x.test(1, 0, 3), 4);
        Check.due("refuted(0)", x.refuted(0), 4);
        Check.due("refuted(1)", x.refuted(1), 2);
        Check.dueRing("test(1, 0, 3)", x, 3, 0, "0 1 2");
        Check.dueFacts("nothing is told", x, 4, "0<1 1<2 2~3");
        Check.due("acts", x.now(4), 7);
        Check.due("eight", Check.told(8, "0<1 1<2 2<3 3<4 4<5 5<6 6<7").test(0, 7, 0), 8);
    }

    private static void testRefused() {
        Sentence.of(18, "NONE: as for tell().");
        SpanFacts x = Check.told(4, "0<1 1<2 0<2");
        dueRefused(x, x::test);
        Check.due("of no items", new SpanFacts().test(0, 0, 1), NONE);
    }

    private static void yieldsFewest() {
        Sentence.of(19, "The fewest FACTS, 3 at most, without which it could be told, as bits, ");
        SpanFacts x = Check.told(6, "0<1 0<2 1<4 2<4 4<5");
        Check.due("one fact, though two have a lesser number", x.yields(0, 5, 0), 16);
        Check.due("two", x.yields(0, 4, 0), 3);
        Check.due("none", x.yields(0, 0, 5), 0);
        Check.due("one of a ring with beside", Check.told(4, "0<1 1~2 2<3").yields(1, 0, 3), 1);
        Check.due("one of the longest ring", Check.told(8, "6<7 0<1 1<2 2<3 3<4 4<5 5<6").yields(0, 7, 0), 1);
        SpanFacts y = Check.told(5, "0<1 1<4 0<2 2<4 0<3 3<4");
        Check.due("three", y.yields(0, 4, 0), 21);
        Check.due("three", y.yields(1, 4, 0), 21);
        Check.dueFacts("nothing is forgotten", y, 5, "0<1 1<4 0<2 2<4 0<3 3<4");
        Check.due("nothing is refuted", y.refuted(0), NONE);
        Check.due("acts", y.now(4), 8);
    }

    private static void yieldsLeast() {
        Sentence.of(19, "of like ones the least number (0: it could); ");
        Check.due("of two", Check.told(3, "1<2 0<1").yields(0, 2, 0), 1);
        Check.due("6 (facts 1, 2), ahead of 9 (facts 0, 3)", Check.told(5, "0<2 2<4 3<4 0<1 1<2 1<3").yields(0, 4, 0), 6);
        Check.due("it could", Check.told(3, "0<1 1<2").yields(0, 0, 2), 0);
        Check.due("it could", Check.told(3, "0<1 1~2").yields(1, 0, 2), 0);
    }

    private static void yieldsNone() {
        Sentence.of(19, "NONE: as for tell(); ");
        SpanFacts x = Check.told(4, "0<1 1<2 0<2");
        dueRefused(x, x::yields);
        Check.due("of no items", new SpanFacts().yields(0, 0, 1), NONE);
    }

    private static void yieldsMore() {
        Sentence.of(19, "-2: more than 3.");
        SpanFacts x = Check.told(8, "0<1 1<7 0<2 2<7 0<3 3<7");
        Check.due("three", x.yields(0, 7, 0), 21);
        x.tell(0, 0, 4);
        x.tell(0, 4, 7);
        Check.due("four", x.yields(0, 7, 0), REFUTED);
        Check.due("four", x.yields(1, 0, 7), REFUTED);
        x.forget(0);
        Check.due("three again", x.yields(0, 7, 0), 42);
        Check.due("nothing is refuted", x.refuted(0), NONE);
    }

    private static void idleBits() {
        Sentence.of(20, "FACTS of whose two ITEMS nothing else may be told besides all others, as bits.");
        Check.due("of none", new SpanFacts().idle(), 0);
        Check.due("one fact", Check.told(2, "0<1").idle(), 0);
        Check.due("0 before 2 alone may be told", Check.told(3, "0<1 1<2 0<2").idle(), 4);
        Check.due("0 before 2, beside may be told", Check.told(3, "0<1 1~2 0<2").idle(), 0);
        Check.due("0 before 2, beside may be told", Check.told(3, "0<1 1~2 0~2").idle(), 0);
        Check.due("beside alone may be told", Check.told(6, "0~1 0~2 2<3 3~1 1~4 4<5 5~0").idle(), 1);
        SpanFacts x = new SpanFacts();
        x.make(8, 1429);
        int bits = 0;
        for (int a = 0; a < 8; a++) {
            for (int b = a + 2; b < 8; b++) {
                bits |= 1 << x.about(a, b);
            }
        }
        Check.due("all before", x.idle(), bits);
        x.make(8, 0);
        Check.due("all beside", x.idle(), 0);
    }
}
