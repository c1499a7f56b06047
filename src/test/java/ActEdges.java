/** Boundary cases of acts: the Terms on draws, new notes and 512 calls, promises 29 to 37. */
final class ActEdges {
    private static final int NONE = SpanFacts.NONE;
    private static final int LOW = Integer.MIN_VALUE;
    private static final int HIGH = Integer.MAX_VALUE;
    private static final int TELLS = -1;
    private static final int[] SHAPES = {1, 1, 2, 5, 14, 42, 132, 429, 1430};
    private static final int[] SEEDS = {LOW, LOW + 1, -1103515245, -12345, -256, -2, -1, 0, 1, 2, 255, 256, 12345, HIGH - 1, HIGH};

    private ActEdges() {
    }

    static void run() {
        drawsWrap();
        deedForgets();
        deedWithoutFacts();
        deedTells();
        deedWithTwoItems();
        deedWithFewerThanTwo();
        deedOfKind();
        deedDoesNothing();
        newNotesUndoNothing();
        calls512();
        makePairs();
        makeByShape();
        makeCounts();
        makeRefused();
        finishPairs();
        finishFirstOpen();
        finishCounts();
        growNumbers();
        growFull();
        dropShifts();
        dropRefused();
        turnBefores();
        drawnDeeds();
        drawnRefused();
        undoActs();
        undoNotRefused();
        undoAboveNought();
        undoNotNought();
        undoLeavesOthers();
        undoEight();
        undoNone();
        imageKept();
        imageRefused();
        restoreAsKept();
        restoreLeavesOthers();
        restoreRefused();
    }

    /** Draws worked out with longs beside the class. */
    private static final class Draws {
        private long s;

        Draws(int seed) {
            s = seed & 0xffffffffL;
        }

        int draw(int n) {
            s = (s * 1103515245L + 12345L) % 4294967296L;
            return (int) (s / 256 % n);
        }
    }

    /** The least seed from 0 on of which the draws are as wanted: each n with its draw (TELLS: any but 0). */
    private static int seedFor(int... wanted) {
        for (int seed = 0; seed < 1000000; seed++) {
            Draws draws = new Draws(seed);
            boolean fits = true;
            for (int i = 0; i < wanted.length && fits; i += 2) {
                int draw = draws.draw(wanted[i]);
                fits = wanted[i + 1] == TELLS ? draw != 0 : draw == wanted[i + 1];
            }
            if (fits) {
                return seed;
            }
        }
        Check.due("a seed is found", false, true);
        return 0;
    }

    private static void drawsWrap() {
        Sentence.of(0, "DRAWN by a seed s: for each draw of n s becomes s * 1103515245 + 12345 (an int, wrapping), the draw is (s >>> 8) % n: ");
        for (int i = 0; i < 200; i++) {
            int seed = i < SEEDS.length ? SEEDS[i] : i * 21474837;
            Draws draws = new Draws(seed);
            SpanFacts x = Check.told(8, "");
            boolean tells = draws.draw(8) != 0;
            int a = draws.draw(8);
            int b = draws.draw(7);
            int kind = draws.draw(2);
            b = b >= a ? b + 1 : b;
            Check.due("drawn(1, " + seed + ")", x.drawn(1, seed), tells ? 1 : 0);
            Check.dueFacts("drawn(1, " + seed + ")", x, 8, tells ? a + (kind == 0 ? "<" : "~") + b : "");
        }
    }

    private static void deedForgets() {
        Sentence.of(0, "each DEED: a draw of 8: 0: a draw of FACTS ");
        Sentence.of(0, ": it is FORGOTTEN; ");
        String[] left = {"1~2 2~3", "0~1 2~3", "0~1 1~2"};
        for (int k = 0; k < 3; k++) {
            SpanFacts x = Check.told(4, "0~1 1~2 2~3");
            Check.due("drawn", x.drawn(1, seedFor(8, 0, 3, k)), 1);
            Check.dueFacts("fact " + k + " is forgotten", x, 4, left[k]);
        }
        SpanFacts y = Check.told(4, "0~1 1~2 2~3");
        Check.due("all are forgotten", y.drawn(3, seedFor(8, 0, 3, 2, 8, 0, 2, 0, 8, 0, 1, 0)), 3);
        Check.dueFacts("all are forgotten", y, 4, "");
        SpanFacts z = Check.told(4, "0~1 1~2 2~3");
        Check.due("two are", z.drawn(2, seedFor(8, 0, 3, 0, 8, 0, 2, 1)), 2);
        Check.dueFacts("those left are counted anew", z, 4, "1~2");
    }

    private static void deedWithoutFacts() {
        Sentence.of(0, "(none: no draw, nothing)");
        Check.due("nothing", Check.told(4, "").drawn(1, seedFor(8, 0)), 0);
        for (int a = 0; a < 4; a++) {
            SpanFacts x = Check.told(4, "");
            Check.due("nothing, and no draw", x.drawn(2, seedFor(8, 0, 8, 3, 4, a, 3, 0, 2, 0)), 1);
            Check.dueFacts("the second deed", x, 4, a == 0 ? "0<1" : a + "<0");
        }
        SpanFacts y = Check.told(2, "0<1");
        Check.due("forgotten, nothing, told", y.drawn(3, seedFor(8, 0, 1, 0, 8, 0, 8, 7, 2, 1, 1, 0, 2, 1)), 2);
        Check.dueFacts("forgotten, nothing, told", y, 2, "1~0");
    }

    private static void deedTells() {
        Sentence.of(0, "else a draw of ITEMS, a draw of ITEMS less 1 (and 1, if it is not below the first one; ");
        for (int a = 0; a < 3; a++) {
            for (int other = 0; other < 2; other++) {
                int b = other < a ? other : other + 1;
                SpanFacts x = Check.told(3, "");
                Check.due("drawn", x.drawn(1, seedFor(8, 1 + a, 3, a, 2, other, 2, 0)), 1);
                Check.dueFacts("the other one", x, 3, a + "<" + b);
            }
        }
        for (int first = 1; first < 8; first++) {
            SpanFacts x = Check.told(8, "");
            Check.due("a draw of 8 is " + first, x.drawn(1, seedFor(8, first, 8, 7, 7, 6, 2, 0)), 1);
            Check.dueFacts("a draw of 8 is " + first, x, 8, "7<6");
        }
    }

    private static void deedWithTwoItems() {
        Sentence.of(0, "a draw of ITEMS less 1 (and 1, if it is not below the first one; ");
        for (int a = 0; a < 2; a++) {
            for (int kind = 0; kind < 2; kind++) {
                SpanFacts x = Check.told(2, "");
                Check.due("a draw of 1 is one too", x.drawn(1, seedFor(8, 5, 2, a, 1, 0, 2, kind)), 1);
                Check.dueFacts("a draw of 1", x, 2, a + (kind == 0 ? "<" : "~") + (1 - a));
            }
        }
    }

    private static void deedWithFewerThanTwo() {
        Sentence.of(0, "with fewer than two: no draws, nothing), ");
        for (int seed : SEEDS) {
            SpanFacts none = new SpanFacts();
            SpanFacts one = Check.told(1, "");
            Check.due("of no items", none.drawn(60, seed), 0);
            Check.due("of one item", one.drawn(60, seed), 0);
            Check.dueFacts("of no items", none, 0, "");
            Check.dueFacts("of one item", one, 1, "");
            Check.due("acts", one.now(4), 1);
        }
    }

    private static void deedOfKind() {
        Sentence.of(0, "a draw of 2: 0: that the one is BEFORE, 1: BESIDE the other one is told ");
        for (int kind = 0; kind < 2; kind++) {
            SpanFacts x = Check.told(5, "");
            Check.due("drawn", x.drawn(1, seedFor(8, 6, 5, 4, 4, 1, 2, kind)), 1);
            Check.dueFacts("drawn", x, 5, kind == 0 ? "4<1" : "4~1");
        }
        SpanFacts y = Check.told(3, "");
        int seed = seedFor(8, 2, 3, 2, 2, 0, 2, 0, 8, 4, 3, 0, 2, 0, 2, 1);
        Check.due("two deeds", y.drawn(2, seed), 2);
        Check.dueFacts("two deeds", y, 3, "2<0 0~1");
    }

    private static void deedDoesNothing() {
        Sentence.of(0, "(if a FACT is told of them, or it is REFUTED: nothing).");
        for (int a = 0; a < 2; a++) {
            for (int kind = 0; kind < 2; kind++) {
                SpanFacts x = Check.told(2, "0<1");
                Check.due("one is told", x.drawn(1, seedFor(8, 3, 2, a, 1, 0, 2, kind)), 0);
                Check.dueFacts("one is told", x, 2, "0<1");
                Check.due("acts", x.now(4), 3);
                Check.due("all are drawn", x.drawn(2, seedFor(8, TELLS, 2, a, 1, 0, 2, kind, 8, 0, 1, 0)), 1);
                Check.dueFacts("all are drawn", x, 2, "");
            }
        }
        SpanFacts y = Check.told(3, "0<1 1<2");
        Check.due("2 before 0 is refuted", y.drawn(1, seedFor(8, 3, 3, 2, 2, 0, 2, 0)), 0);
        Check.due("2 beside 0 is refuted", y.drawn(1, seedFor(8, 3, 3, 2, 2, 0, 2, 1)), 0);
        Check.due("0 beside 2 is refuted", y.drawn(1, seedFor(8, 3, 3, 0, 2, 1, 2, 1)), 0);
        Check.due("refuted() does not tell it", y.refuted(0), NONE);
        Check.due("acts", y.now(4), 5);
        Check.due("0 before 2 is not", y.drawn(1, seedFor(8, 3, 3, 0, 2, 1, 2, 0)), 1);
        Check.dueFacts("0 before 2 is not", y, 3, "0<1 1<2 0<2");
        SpanFacts z = Check.told(3, "0<1 1<2");
        int seed = seedFor(8, TELLS, 3, 2, 2, 0, 2, 0, 8, 0, 2, 1, 8, TELLS, 3, 2, 2, 0, 2, 0);
        Check.due("refuted, forgotten, told", z.drawn(3, seed), 2);
        Check.dueFacts("refuted, forgotten, told", z, 3, "0<1 2<0");
    }

    private static void newNotesUndoNothing() {
        Sentence.of(0, "New NOTES: nothing can be undone.");
        SpanFacts x = Check.told(3, "0<1");
        Check.due("acts", x.now(4), 4);
        Check.due("notes()", Check.notes(x, "item a;item b;a before b;"), 3);
        Check.due("acts", x.now(4), 0);
        Check.due("undo()", x.undo(), NONE);
        Check.dueFacts("undo()", x, 2, "0<1");
        x.grow();
        Check.due("undo()", x.undo(), 0);
        x.grow();
        Check.due("empty notes", x.notes(), 0);
        Check.due("undo()", x.undo(), NONE);
        Check.dueFacts("empty notes", x, 0, "");
        x.grow();
        Check.due("a fault", Check.notes(x, "?"), -1);
        Check.due("undo()", x.undo(), 0);
    }

    private static void calls512() {
        Sentence.of(0, "An object is used for at most 512 calls after it has been made; what later calls answer is free.");
        SpanFacts x = Check.told(8, "");
        for (int round = 1; round <= 63; round++) {
            Check.due("ways() of round " + round, x.ways(), 999);
            Check.due("finish() of round " + round, x.finish(), 28);
            Check.due("rank() of round " + round, x.rank(), 1429);
            Check.due("undo() of round " + round, x.undo(), 7);
            Check.due("make() of round " + round, x.make(8, 22 * round), 28);
            Check.due("rank() of round " + round, x.rank(), 22 * round);
            Check.due("undo() of round " + round, x.undo(), 7);
            Check.due("gap() of round " + round, x.gap(0, 7, 60, 0), SpanFacts.HIDDEN);
        }
    }

    private static void makePairs() {
        Sentence.of(29, "There are n (1 to 8) ITEMS, and of each two (0 and 1, 0 and 2, .., 1 and 2, ..) a FACT: ");
        for (int n = 1; n <= 8; n++) {
            SpanFacts x = Check.told(5, "4<0");
            x.make(n, SHAPES[n] - 1);
            Check.due("items", x.now(0), n);
            int k = 0;
            for (int a = 0; a < n; a++) {
                for (int b = a + 1; b < n; b++) {
                    Check.due("fact(" + k + ", 1)", x.fact(k, 1), a);
                    Check.due("fact(" + k + ", 2)", x.fact(k, 2), b);
                    k++;
                }
            }
            Check.due("facts", x.now(1), k);
        }
    }

    private static void makeByShape() {
        Sentence.of(29, "by the SHAPE of a RANK, of which the i-th number is that of ITEM i: as many from ITEM 0 on are BEFORE it, it is BESIDE all others ahead of it: ");
        dueMade(2, 0, "0~1");
        dueMade(2, 1, "0<1");
        dueMade(3, 0, "0~1 0~2 1~2");
        dueMade(3, 1, "0~1 0<2 1~2");
        dueMade(3, 2, "0~1 0<2 1<2");
        dueMade(3, 3, "0<1 0<2 1~2");
        dueMade(3, 4, "0<1 0<2 1<2");
        dueMade(4, 0, "0~1 0~2 0~3 1~2 1~3 2~3");
        dueMade(4, 3, "0~1 0~2 0<3 1~2 1<3 2<3");
        dueMade(4, 7, "0~1 0<2 0<3 1<2 1<3 2~3");
        dueMade(4, 13, "0<1 0<2 0<3 1<2 1<3 2<3");
    }

    private static void dueMade(int n, int number, String facts) {
        SpanFacts x = new SpanFacts();
        x.make(n, number);
        Check.dueFacts("make(" + n + ", " + number + ")", x, n, facts);
    }

    private static void makeCounts() {
        Sentence.of(29, "how many FACTS; ");
        for (int n = 1; n <= 8; n++) {
            Check.due("make(" + n + ", 0)", Check.told(3, "0<1").make(n, 0), n * (n - 1) / 2);
            Check.due("the last of " + n, new SpanFacts().make(n, SHAPES[n] - 1), n * (n - 1) / 2);
        }
        SpanFacts x = Check.told(3, "0<1");
        Check.due("an act though it is 0", x.make(1, 0), 0);
        Check.due("undo()", x.undo(), 4);
        Check.dueFacts("undo()", x, 3, "0<1");
    }

    private static void makeRefused() {
        Sentence.of(29, "NONE: not as told.");
        SpanFacts x = Check.told(3, "0<1");
        for (int n : new int[] {LOW, -1, 0, 9, 12, 13, HIGH}) {
            for (int number = -1; number <= 1; number++) {
                Check.due("make(" + n + ", " + number + ")", x.make(n, number), NONE);
            }
        }
        for (int n = 1; n <= 8; n++) {
            for (int number : new int[] {LOW, -1, SHAPES[n], SHAPES[n] + 1, HIGH}) {
                Check.due("make(" + n + ", " + number + ")", x.make(n, number), NONE);
            }
        }
        Check.dueFacts("nothing is made", x, 3, "0<1");
        Check.due("acts", x.now(4), 4);
    }

    private static void finishPairs() {
        Sentence.of(30, "A FACT is told of each two ITEMS a and b (0 and 1, 0 and 2, .., 1 and 2, ..) of which none is: ");
        dueFinished(3, "", "0<1 0<2 1<2");
        dueFinished(4, "", "0<1 0<2 0<3 1<2 1<3 2<3");
        dueFinished(4, "3<0", "3<0 0<1 0<2 1<2 3<1 3<2");
        dueFinished(3, "1~2", "1~2 0<1 0<2");
        dueFinished(3, "1~2 2~0", "1~2 2~0 0<1");
    }

    private static void finishFirstOpen() {
        Sentence.of(30, "the first of a BEFORE b, b BEFORE a, BESIDE (a, b) that is not REFUTED: ");
        dueFinished(3, "2<1 1<0", "2<1 1<0 2<0");
        dueFinished(3, "0~1 2<1", "0~1 2<1 2<0");
        dueFinished(4, "0<3 0~1 2~0 1~3 2~3", "0<3 0~1 2~0 1~3 2~3 1~2");
        dueFinished(4, "0<3 0~2 1~0 2~3 3~1", "0<3 0~2 1~0 2~3 3~1 1~2");
        SpanFacts x = Check.told(6, "0~2 2<3 3~1 1~4 4<5 5~0");
        Check.due("finish()", x.finish(), 9);
        Check.due("0 beside 1: fact(6, 0)", x.fact(6, 0), 1);
        Check.due("fact(6, 1)", x.fact(6, 1), 0);
        Check.due("fact(6, 2)", x.fact(6, 2), 1);
    }

    private static void dueFinished(int n, String facts, String due) {
        SpanFacts x = Check.told(n, facts);
        int had = x.now(1);
        Check.due("finish() with " + facts, x.finish(), n * (n - 1) / 2 - had);
        Check.dueFacts("finish() with " + facts, x, n, due);
    }

    private static void finishCounts() {
        Sentence.of(30, "how many were told.");
        for (int n = 0; n <= 8; n++) {
            SpanFacts x = Check.told(n, "");
            Check.due("of " + n, x.finish(), n * (n - 1) / 2);
            Check.due("again", x.finish(), 0);
            Check.due("facts", x.now(1), n * (n - 1) / 2);
        }
        SpanFacts y = new SpanFacts();
        y.make(8, 700);
        y.forget(13);
        Check.due("one is left", y.finish(), 1);
        Check.due("nothing is refuted", y.refuted(0), NONE);
    }

    private static void growNumbers() {
        Sentence.of(31, "One more ITEM, behind all others: its number; ");
        SpanFacts x = new SpanFacts();
        for (int n = 0; n < 8; n++) {
            Check.due("grow()", x.grow(), n);
            Check.due("now(0)", x.now(0), n + 1);
        }
        SpanFacts y = Check.told(3, "0<1 2~0");
        Check.due("grow()", y.grow(), 3);
        Check.dueFacts("behind all others", y, 4, "0<1 2~0");
        y.drop(0);
        Check.due("grow()", y.grow(), 3);
    }

    private static void growFull() {
        Sentence.of(31, "NONE: there are 8.");
        SpanFacts x = Check.told(8, "0<1");
        x.forget(0);
        x.drop(7);
        x.undo();
        int acts = x.now(4);
        Check.due("grow()", x.grow(), NONE);
        Check.due("grow()", x.grow(), NONE);
        Check.dueFacts("nothing grows", x, 8, "");
        Check.due("acts", x.now(4), acts);
        x.drop(0);
        Check.due("room again", x.grow(), 7);
    }

    private static void dropShifts() {
        Sentence.of(32, "An ITEM goes, with its FACTS (ITEMS, FACTS behind it are one less, each): how many are left; ");
        String facts = "0<1 1~2 3<2 0~3 3~1";
        dueDropped(facts, 0, "0~1 2<1 2~0");
        dueDropped(facts, 1, "2<1 0~2");
        dueDropped(facts, 2, "0<1 0~2 2~1");
        dueDropped(facts, 3, "0<1 1~2");
        SpanFacts x = Check.told(1, "");
        Check.due("the last one", x.drop(0), 0);
        Check.dueFacts("the last one", x, 0, "");
        Check.due("an act though it is 0", x.undo(), 1);
        Check.due("items", x.now(0), 1);
        SpanFacts y = new SpanFacts();
        y.make(8, 1429);
        for (int left = 7; left >= 0; left--) {
            Check.due("drop(" + left / 2 + ")", y.drop(left / 2), left);
            Check.due("facts", y.now(1), left * (left - 1) / 2);
        }
    }

    private static void dueDropped(String facts, int item, String due) {
        SpanFacts x = Check.told(4, facts);
        Check.due("drop(" + item + ")", x.drop(item), 3);
        Check.dueFacts("drop(" + item + ")", x, 3, due);
    }

    private static void dropRefused() {
        Sentence.of(32, "NONE: no such one.");
        Check.due("of no items", new SpanFacts().drop(0), NONE);
        SpanFacts x = Check.told(3, "0<1");
        for (int item : new int[] {LOW, -2, -1, 3, 4, 8, HIGH}) {
            Check.due("drop(" + item + ")", x.drop(item), NONE);
        }
        Check.dueFacts("nothing goes", x, 3, "0<1");
        Check.due("acts", x.now(4), 4);
    }

    private static void turnBefores() {
        Sentence.of(33, "Each FACT that is BEFORE is turned (its second ITEM BEFORE its first one): how many.");
        dueTurned(4, "0<1 2~1 3<2", "1<0 2~1 2<3", 2);
        dueTurned(3, "2~1 1~0", "2~1 1~0", 0);
        dueTurned(3, "", "", 0);
        dueTurned(0, "", "", 0);
        SpanFacts x = new SpanFacts();
        x.make(8, 1429);
        Check.due("all", x.turn(), 28);
        Check.due("fact(27, 1)", x.fact(27, 1), 7);
        Check.due("bits", x.now(2), (1 << 28) - 1);
        Check.due("and back", x.turn(), 28);
        Check.due("fact(27, 1)", x.fact(27, 1), 6);
    }

    private static void dueTurned(int n, String facts, String due, int many) {
        SpanFacts x = Check.told(n, facts);
        int acts = x.now(4);
        Check.due("turn() of " + facts, x.turn(), many);
        Check.dueFacts("turn() of " + facts, x, n, due);
        Check.due("acts", x.now(4), many > 0 ? acts + 1 : acts);
    }

    private static void drawnDeeds() {
        Sentence.of(34, "n (1 to 60) DEEDS DRAWN by a seed: how many were done; ");
        int seed = seedFor(8, 1, 3, 0, 2, 0, 2, 0, 8, 2, 3, 1, 2, 0, 2, 0, 8, 0, 1, 0);
        int[] done = {1, 1, 2};
        String[] facts = {"0<1", "0<1", ""};
        for (int n = 1; n <= 3; n++) {
            SpanFacts x = Check.told(3, "");
            Check.due("drawn(" + n + ", " + seed + ")", x.drawn(n, seed), done[n - 1]);
            Check.dueFacts("drawn(" + n + ", " + seed + ")", x, 3, facts[n - 1]);
        }
        dueManyDeeds(59, 4711);
        dueManyDeeds(60, 4711);
        dueManyDeeds(60, -4711);
    }

    /** Two items: what each deed does is seen by whether a fact is there. */
    private static void dueManyDeeds(int n, int seed) {
        Draws draws = new Draws(seed);
        int done = 0;
        String fact = "";
        for (int i = 0; i < n; i++) {
            if (draws.draw(8) == 0) {
                if (!fact.isEmpty()) {
                    draws.draw(1);
                    fact = "";
                    done++;
                }
            } else {
                int a = draws.draw(2);
                draws.draw(1);
                String told = a + (draws.draw(2) == 0 ? "<" : "~") + (1 - a);
                done += fact.isEmpty() ? 1 : 0;
                fact = fact.isEmpty() ? told : fact;
            }
        }
        SpanFacts x = Check.told(2, "");
        Check.due("drawn(" + n + ", " + seed + ")", x.drawn(n, seed), done);
        Check.dueFacts("drawn(" + n + ", " + seed + ")", x, 2, fact);
    }

    private static void drawnRefused() {
        Sentence.of(34, "NONE: not as told.");
        SpanFacts x = Check.told(3, "0<1");
        for (int n : new int[] {LOW, -60, -1, 0, 61, 62, HIGH}) {
            for (int seed : SEEDS) {
                Check.due("drawn(" + n + ", " + seed + ")", x.drawn(n, seed), NONE);
            }
        }
        Check.dueFacts("nothing is done", x, 3, "0<1");
        Check.due("acts", x.now(4), 4);
        Check.due("of no items", new SpanFacts().drawn(0, 1), NONE);
    }

    private static void undoActs() {
        Sentence.of(35, "The latest tell(), forget(), make(), grow(), drop() that was 0 or more, ");
        SpanFacts x = new SpanFacts();
        Check.due("grow()", x.grow(), 0);
        Check.due("it was 0", x.undo(), 0);
        Check.dueFacts("grow()", x, 0, "");
        x = Check.told(2, "");
        Check.due("tell()", x.tell(0, 0, 1), 0);
        Check.due("it was 0", x.undo(), 2);
        Check.dueFacts("tell()", x, 2, "");
        x = Check.told(2, "1~0");
        Check.due("forget()", x.forget(0), 0);
        Check.due("it was 0", x.undo(), 3);
        Check.dueFacts("forget()", x, 2, "1~0");
        Check.due("make()", x.make(1, 0), 0);
        Check.due("it was 0", x.undo(), 3);
        Check.dueFacts("make()", x, 2, "1~0");
        Check.due("make()", x.make(8, 1429), 28);
        Check.due("it was 28", x.undo(), 3);
        Check.dueFacts("make()", x, 2, "1~0");
        Check.due("drop()", x.drop(1), 1);
        Check.due("drop()", x.drop(0), 0);
        Check.due("it was 0", x.undo(), 4);
        Check.dueFacts("drop()", x, 1, "");
        Check.due("it was 1", x.undo(), 3);
        Check.dueFacts("drop()", x, 2, "1~0");
    }

    private static void undoNotRefused() {
        Sentence.of(35, " that was 0 or more, ");
        SpanFacts x = Check.told(3, "0<1 1<2");
        Check.due("tell()", x.tell(0, 2, 0), -2);
        Check.due("tell()", x.tell(0, 0, 1), NONE);
        Check.due("forget()", x.forget(2), NONE);
        Check.due("make()", x.make(9, 0), NONE);
        Check.due("drop()", x.drop(3), NONE);
        Check.due("acts", x.now(4), 5);
        Check.due("undo()", x.undo(), 4);
        Check.dueFacts("the latest that was 0 or more", x, 3, "0<1");
        SpanFacts y = Check.told(8, "");
        Check.due("grow()", y.grow(), NONE);
        Check.due("undo()", y.undo(), 7);
        Check.dueFacts("the latest that was 0 or more", y, 7, "");
    }

    private static void undoAboveNought() {
        Sentence.of(35, "finish(), turn(), drawn() above 0 is undone: ");
        SpanFacts x = Check.told(3, "2<1");
        Check.due("finish()", x.finish(), 2);
        Check.due("turn()", x.turn(), 3);
        Check.due("drawn()", x.drawn(1, seedFor(8, 0, 3, 1)), 1);
        Check.dueFacts("drawn()", x, 3, "1<2 2<0");
        Check.due("undo()", x.undo(), 6);
        Check.dueFacts("drawn() is undone", x, 3, "1<2 1<0 2<0");
        Check.due("undo()", x.undo(), 5);
        Check.dueFacts("turn() is undone", x, 3, "2<1 0<1 0<2");
        Check.due("undo()", x.undo(), 4);
        Check.dueFacts("finish() is undone", x, 3, "2<1");
        SpanFacts z = Check.told(3, "2<1 1~0");
        Check.due("finish()", z.finish(), 1);
        Check.due("turn()", z.turn(), 2);
        z.forget(0);
        Check.due("turn()", z.turn(), 1);
        Check.due("undo() of a turn() of 1", z.undo(), 7);
        Check.dueFacts("undo() of a turn() of 1", z, 3, "1~0 0<2");
        z.undo();
        z.undo();
        Check.due("undo() of a finish() of 1", z.undo(), 4);
        Check.dueFacts("undo() of a finish() of 1", z, 3, "2<1 1~0");
        SpanFacts y = Check.told(4, "0<1");
        int done = y.drawn(60, 99);
        Check.due("many deeds are one act", done > 1 ? y.now(4) : -9, 6);
        Check.due("undo()", y.undo(), 5);
        Check.dueFacts("many deeds are one act", y, 4, "0<1");
    }

    private static void undoNotNought() {
        Sentence.of(35, "finish(), turn(), drawn() above 0 is undone: ");
        SpanFacts x = Check.told(2, "0~1");
        Check.due("finish()", x.finish(), 0);
        Check.due("turn()", x.turn(), 0);
        Check.due("drawn()", x.drawn(1, seedFor(8, 1, 2, 0, 1, 0, 2, 0)), 0);
        Check.due("drawn()", x.drawn(0, 0), NONE);
        Check.due("acts", x.now(4), 3);
        Check.due("undo()", x.undo(), 2);
        Check.dueFacts("tell() is undone", x, 2, "");
    }

    /** Acts and their undoing change items and facts alone. */
    private static void undoLeavesOthers() {
        Sentence.of(35, " is undone: ");
        SpanFacts x = Check.told(3, "0<1 1<2");
        x.image(0);
        x.test(0, 2, 0);
        Check.notes(x, "item a;item a;");
        Check.feed(x, "item z;");
        x.forget(0);
        x.grow();
        x.turn();
        x.finish();
        x.make(3, 1);
        x.drop(0);
        x.tell(0, 0, 1);
        for (int left = 7; left >= 0; left--) {
            x.undo();
            Check.due("the tape", x.now(5), 7);
            Check.due("fault()", x.fault(), 2);
            Check.due("refuted(0)", x.refuted(0), 3);
            Check.dueRing("refuted()", x, 2, 0, "0 1");
        }
        Check.due("the image", x.restore(0), true);
        Check.dueFacts("the image", x, 3, "0<1 1<2");
        Check.due("the tape is read", x.notes(), 1);
    }

    private static void undoEight() {
        Sentence.of(35, "how many more can be (8 at most are kept); ");
        SpanFacts x = new SpanFacts();
        for (int n = 1; n <= 8; n++) {
            x.grow();
            Check.due("acts", x.now(4), n);
        }
        String[] facts = {"0<1", "0<1 1<2", "0<1 1<2 2<3"};
        for (int i = 0; i < 3; i++) {
            x.tell(0, i, i + 1);
            Check.due("eight at most", x.now(4), 8);
        }
        for (int i = 1; i >= 0; i--) {
            Check.due("undo()", x.undo(), 6 + i);
            Check.dueFacts("undo()", x, 8, facts[i]);
        }
        for (int left = 5; left >= 0; left--) {
            Check.due("undo()", x.undo(), left);
            Check.dueFacts("undo()", x, left == 5 ? 8 : left + 3, "");
        }
        Check.due("the three oldest are not kept", x.undo(), NONE);
        Check.due("items", x.now(0), 3);
        x.grow();
        Check.due("one act", x.now(4), 1);
    }

    private static void undoNone() {
        Sentence.of(35, "NONE: none is.");
        Check.due("a new object", new SpanFacts().undo(), NONE);
        SpanFacts x = Check.told(2, "");
        x.image(0);
        x.undo();
        x.undo();
        Check.due("all are undone", x.undo(), NONE);
        Check.due("an undone act can't be", x.now(4), 0);
        x.image(1);
        x.test(0, 0, 1);
        x.feed(1, 2, 3, 4, 5);
        x.end(2);
        Check.due("other calls are no acts", x.undo(), NONE);
        Check.dueFacts("nothing is undone", x, 0, "");
        Check.due("the tape stays", x.now(5), 2);
    }

    private static void imageKept() {
        Sentence.of(36, "ITEMS and FACTS are kept in place k (0, 1): true; ");
        SpanFacts x = Check.told(3, "0<1");
        Check.due("image(0)", x.image(0), true);
        x.tell(1, 2, 1);
        Check.due("image(1)", x.image(1), true);
        Check.due("acts stay", x.now(4), 5);
        x.drop(0);
        x.restore(0);
        Check.dueFacts("place 0", x, 3, "0<1");
        x.restore(1);
        Check.dueFacts("place 1", x, 3, "0<1 2~1");
        x.forget(0);
        Check.due("image(1) again", x.image(1), true);
        x.make(8, 5);
        x.restore(1);
        Check.dueFacts("the latest one of place 1", x, 3, "2~1");
        x.restore(0);
        Check.dueFacts("place 0 stays", x, 3, "0<1");
        SpanFacts y = new SpanFacts();
        Check.due("an image of no items", y.image(0), true);
        y.make(8, 1429);
        Check.due("restore(0)", y.restore(0), true);
        Check.dueFacts("no items", y, 0, "");
    }

    private static void imageRefused() {
        Sentence.of(36, "false: no such one.");
        SpanFacts x = Check.told(2, "0<1");
        for (int k : new int[] {LOW, -2, -1, 2, 3, HIGH}) {
            Check.due("image(" + k + ")", x.image(k), false);
        }
        Check.due("nothing is kept", x.restore(0), false);
        Check.due("nothing is kept", x.restore(1), false);
    }

    private static void restoreAsKept() {
        Sentence.of(37, "They are as kept in place k ");
        Sentence.of(37, "nothing can be undone): true; ");
        SpanFacts x = new SpanFacts();
        x.make(8, 1429);
        x.image(1);
        x.make(1, 0);
        Check.due("restore(1)", x.restore(1), true);
        Check.due("items", x.now(0), 8);
        Check.due("facts", x.now(1), 28);
        Check.due("acts", x.now(4), 0);
        Check.due("undo()", x.undo(), NONE);
        Check.due("facts", x.now(1), 28);
        x.forget(27);
        x.forget(26);
        Check.due("acts", x.now(4), 2);
        Check.due("restore(1) again", x.restore(1), true);
        Check.due("facts", x.now(1), 28);
        Check.due("undo()", x.undo(), NONE);
        x.grow();
        x.drop(7);
        Check.due("undo()", x.undo(), 0);
        Check.due("facts", x.now(1), 28);
        Check.notes(x, "item a;");
        Check.due("images stay with new notes", x.restore(1), true);
        Check.due("facts", x.now(1), 28);
    }

    private static void restoreLeavesOthers() {
        Sentence.of(37, "(the tape, what fault(), refuted() tell, stays; ");
        SpanFacts x = Check.told(3, "0<1");
        x.image(0);
        x.tell(0, 1, 2);
        x.test(0, 2, 0);
        Check.notes(x, "item a;item a;");
        Check.feed(x, "item z;");
        Check.due("restore(0)", x.restore(0), true);
        Check.due("the tape", x.now(5), 7);
        Check.due("fault()", x.fault(), 2);
        Check.dueRing("refuted()", x, 2, 0, "0 1");
        Check.due("refuted(0)", x.refuted(0), 3);
        Check.due("refuted(1)", x.refuted(1), 3);
        Check.due("the tape is read", x.notes(), 1);
    }

    private static void restoreRefused() {
        Sentence.of(37, "false: no such one, or nothing is kept there.");
        SpanFacts x = Check.told(2, "0<1");
        Check.due("nothing is kept", x.restore(0), false);
        Check.due("nothing is kept", x.restore(1), false);
        x.image(0);
        Check.due("nothing is kept there", x.restore(1), false);
        for (int k : new int[] {LOW, -2, -1, 2, 3, HIGH}) {
            Check.due("restore(" + k + ")", x.restore(k), false);
        }
        Check.dueFacts("all stays", x, 2, "0<1");
        Check.due("acts stay", x.now(4), 3);
        SpanFacts y = Check.told(2, "0<1");
        y.image(1);
        Check.due("nothing is kept there", y.restore(0), false);
        Check.due("restore(1)", y.restore(1), true);
    }
}
