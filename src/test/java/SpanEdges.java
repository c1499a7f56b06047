/** Boundary cases of spans and of the order: the Terms on both, promises 13 to 15 and 21 to 28. */
final class SpanEdges {
    private static final int NONE = SpanFacts.NONE;
    private static final int HIDDEN = SpanFacts.HIDDEN;
    private static final int LOW = Integer.MIN_VALUE;
    private static final int HIGH = Integer.MAX_VALUE;
    private static final int[] NO_LENGTH = {LOW, -60, -1, 0, 61, 62, 1000, HIGH};
    private static final int[] SHAPES = {1, 1, 2, 5, 14, 42, 132, 429, 1430, 4862, 16796, 58786, 208012};
    private static final String CHAIN = "0<1 1<2 2<3 3<4 4<5 5<6 6<7";

    private SpanEdges() {
    }

    static void run() {
        lengthOneOrMore();
        numbersFromNoughtOn();
        beforeHolds();
        besideHolds();
        leastLength();
        leastWithoutFacts();
        beginIsTheLeast();
        beginsTogether();
        orderByLeast();
        aheadJustSo();
        tightOnes();
        tightBefore();
        tightBeside();
        chainOfEachTwo();
        crowdOfNone();
        mostItemsLeastBits();
        roomsInOrder();
        firstRoom();
        shapeCounts();
        shapeRow();
        shapesInOrder();
        rankCounts();
        hiddenForNone();
        beginTo60();
        beginRefused();
        gapLeastAndMost();
        gapHidden();
        tightTo60();
        tightRefused();
        lateGreatest();
        lateNone();
        aheadAnswers();
        aheadRefused();
        chainAnswers();
        chainRefused();
        crowdAnswers();
        roomAnswers();
        roomRefused();
        shapeAnswers();
        shapeRefused();
        rankAnswers();
        shapesAnswers();
        shapesRefused();
    }

    private static int[] noItem(int items) {
        return new int[] {LOW, -1000000, -2, -1, items, items + 1, 8, 9, HIGH};
    }

    private static void lengthOneOrMore() {
        Sentence.of(0, "SPANS of a LENGTH L (1 or more): ");
        SpanFacts x = Check.told(2, "0~1");
        Check.due("begin(0, 1)", x.begin(0, 1), 0);
        Check.due("begin(0, 0)", x.begin(0, 0), NONE);
        Check.due("begin(0, -1)", x.begin(0, -1), NONE);
        Check.due("gap(0, 1, 1, 1)", x.gap(0, 1, 1, 1), 0);
        Check.due("gap(0, 1, 0, 1)", x.gap(0, 1, 0, 1), HIDDEN);
        Check.due("tight(1)", x.tight(1), 1);
        Check.due("tight(0)", x.tight(0), NONE);
        Check.due("late(0, 1, 0)", x.late(0, 1, 0), 0);
        Check.due("late(0, 0, 9)", x.late(0, 0, 9), NONE);
    }

    private static void numbersFromNoughtOn() {
        Sentence.of(0, "each ITEM has a whole number X, 0 or more.");
        for (int length = 1; length <= 60; length++) {
            SpanFacts x = Check.told(4, "0~1 0<2");
            Check.due("beside what is 0", x.begin(1, length), 0);
            Check.due("ahead of all", x.begin(0, length), 0);
            Check.due("of which nothing is told", x.begin(3, length), 0);
            Check.due("no more than 0", x.late(3, length, length), length);
        }
        Check.due("0 alone", Check.told(2, "0~1").late(0, 7, 0), 0);
    }

    private static void beforeHolds() {
        Sentence.of(0, "A FACT holds: BEFORE: X of the first one and L are not above X of the second one; ");
        SpanFacts x = Check.told(2, "0<1");
        for (int length = 1; length <= 60; length++) {
            Check.due("just so far, length " + length, x.gap(0, 1, length, 0), length);
            Check.due("begin(1, " + length + ")", x.begin(1, length), length);
            Check.due("enough room", x.late(0, length, length), 0);
            Check.due("one too few", x.late(0, length, length - 1), NONE);
        }
        Check.due("not the other way", x.gap(1, 0, 5, 0), HIDDEN);
    }

    private static void besideHolds() {
        Sentence.of(0, "BESIDE: X of one less X of the other is below L, either way.");
        SpanFacts x = Check.told(2, "0~1");
        for (int length = 1; length <= 60; length++) {
            Check.due("least, length " + length, x.gap(0, 1, length, 0), 1 - length);
            Check.due("most, length " + length, x.gap(0, 1, length, 1), length - 1);
            Check.due("least back, length " + length, x.gap(1, 0, length, 0), 1 - length);
            Check.due("most back, length " + length, x.gap(1, 0, length, 1), length - 1);
        }
    }

    private static void leastLength() {
        Sentence.of(0, "LEAST: the least LENGTH of SPANS by which all FACTS hold ");
        dueLeast(2, "0<1", 1);
        dueLeast(8, CHAIN, 1);
        dueLeast(3, "0~1 1~2 2~0", 1);
        dueLeast(3, "0<1 1~2", 1);
        dueLeast(3, "0<1 1~2 2~0", 2);
        dueLeast(4, "0<1 1~2 2~3 3~0", 2);
        dueLeast(5, "0<1 1~2 2<3 3~4 4~0", 3);
        dueLeast(6, "0<1 1~2 2<3 3~4 4~5 5~0", 2);
        dueLeast(7, "0<1 1~2 2<3 3~4 4<5 5~6 6~0", 4);
        dueLeast(8, "0<1 1~2 2<3 3~4 4<5 5~6 6~7 7~0", 3);
        dueLeast(8, "7~3 0<1 1~2 2<3 3~4 4<5 5~6 6~0", 4);
        SpanFacts x = Check.told(3, "0<1 1~2 2~0");
        x.forget(2);
        Check.due("less again", x.now(3), 1);
    }

    private static void dueLeast(int n, String facts, int least) {
        SpanFacts x = Check.told(n, facts);
        Check.due("now(3) with " + facts, x.now(3), least);
        Check.due("begin by it with " + facts, x.begin(0, least) >= 0, true);
        Check.due("begin by one less with " + facts, x.begin(0, least - 1), NONE);
    }

    private static void leastWithoutFacts() {
        Sentence.of(0, "(1 without FACTS).");
        for (int n = 0; n <= 8; n++) {
            Check.due("now(3) of " + n, Check.told(n, "").now(3), 1);
        }
        SpanFacts x = Check.told(3, "0<1 1~2 2~0");
        x.drop(2);
        x.forget(0);
        Check.due("without facts again", x.now(3), 1);
    }

    private static void beginIsTheLeast() {
        Sentence.of(0, "BEGIN of an ITEM by a LENGTH: the least X it has in any such SPANS ");
        for (int length = 1; length <= 60; length += 59) {
            dueBegins("0<1 1<2", length, 0, length, 2 * length);
            dueBegins("0<1 1~2", length, 0, length, 1);
            dueBegins("2~1 0<1", length, 0, length, 1);
            dueBegins("0<1 1<2 2~3", length, 0, length, 2 * length, length + 1);
            dueBegins("0<1 0<2 2<3 1~3", length, 0, Math.max(length, length + 1), length, 2 * length);
        }
        dueBegins("0<1 1~2 2~0", 2, 0, 2, 1);
        dueBegins("0<1 1~2 2~0", 3, 0, 3, 1);
        dueBegins("0<1 1~2 2<3 3~4 4~0", 3, 0, 3, 1, 4, 2);
        dueBegins("1<0 2~0", 4, 4, 0, 1);
    }

    private static void dueBegins(String facts, int length, int... due) {
        SpanFacts x = Check.told(due.length, facts);
        for (int i = 0; i < due.length; i++) {
            Check.due("begin(" + i + ", " + length + ") with " + facts, x.begin(i, length), due[i]);
        }
    }

    /** The numbers that begin() tells hold all facts, and none of them could be one less. */
    private static void beginsTogether() {
        Sentence.of(0, "(all have that in one of these).");
        for (int seed = 1; seed <= 60; seed++) {
            SpanFacts x = Check.told(2 + seed % 7, "");
            x.drawn(25, seed * 104729);
            int n = x.now(0);
            for (int length = x.now(3); length <= 60; length += 13) {
                int[] begins = new int[n];
                for (int i = 0; i < n; i++) {
                    begins[i] = x.begin(i, length);
                }
                Check.due("all hold", allHold(x, begins, length), true);
                for (int i = 0; i < n; i++) {
                    begins[i]--;
                    Check.due("one less", begins[i] >= 0 && allHold(x, begins, length), false);
                    begins[i]++;
                }
            }
        }
    }

    private static boolean allHold(SpanFacts x, int[] at, int length) {
        for (int k = 0; k < x.now(1); k++) {
            int step = at[x.fact(k, 2)] - at[x.fact(k, 1)];
            if (x.fact(k, 0) == 0 ? step < length : Math.abs(step) >= length) {
                return false;
            }
        }
        return true;
    }

    private static void orderByLeast() {
        Sentence.of(0, "The ORDER: by BEGINS by LEAST; ");
        SpanFacts x = Check.told(5, "0<1 1<2 2~3 0<4 4~3");
        Check.due("least", x.now(3), 1);
        Check.due("by 1: 3 begins at 2, as 2 does", x.ahead(1, 3), 1);
        Check.due("ahead(3, 2)", x.ahead(3, 2), 0);
        SpanFacts y = Check.told(5, "0<1 1<2 2~3 1~3");
        Check.due("least", y.now(3), 2);
        Check.due("by 2: 1 begins at 2, 3 at 3", y.ahead(1, 3), 0);
        Check.due("ahead(0, 3)", y.ahead(0, 3), 1);
        Check.due("ahead(3, 2)", y.ahead(3, 2), 0);
        y.forget(3);
        Check.due("by 1 again: 1 begins at 1, 3 at 2", y.ahead(1, 3), 1);
    }

    private static void aheadJustSo() {
        Sentence.of(0, "an ITEM is AHEAD of another one, if its BEGIN and LEAST are not above that one's BEGIN.");
        SpanFacts x = Check.told(3, "0<1 1~2 2~0");
        Check.due("0 and 2 are 2", x.ahead(0, 1), 1);
        Check.due("0 and 2 are above 1", x.ahead(0, 2), 0);
        Check.due("1 and 2 are above 2", x.ahead(2, 1), 0);
        SpanFacts y = Check.told(4, "0<1 1~2 2~0 2<3");
        Check.due("0 and 2 are below 3", y.ahead(0, 3), 1);
        Check.due("1 and 2 are 3", y.ahead(2, 3), 1);
        Check.due("2 and 2 are above 3", y.ahead(1, 3), 0);
        SpanFacts z = Check.told(3, "0<1");
        Check.due("though nothing is told of them", z.ahead(2, 1), 1);
        Check.due("like ones", z.ahead(0, 2), 0);
        Check.due("not of itself", z.ahead(1, 1), 0);
    }

    private static void tightOnes() {
        Sentence.of(0, "TIGHT by a LENGTH: FACTS that by BEGINS hold with nothing to spare: ");
        Check.due("all", Check.told(3, "0<1 1<2").tight(5), 3);
        Check.due("not the third", Check.told(3, "0<1 1<2 0<2").tight(5), 3);
        Check.due("not the first", Check.told(3, "0<2 0<1 1<2").tight(5), 6);
        Check.due("of none", Check.told(3, "").tight(5), 0);
    }

    private static void tightBefore() {
        Sentence.of(0, "BEFORE: X and L are X of the other one; ");
        SpanFacts x = Check.told(5, "0<1 1<2 2~3 0<3 4<2");
        Check.due("3 begins at 4, one more than need be", x.begin(3, 3), 4);
        Check.due("tight(3)", x.tight(3), 7);
        Check.due("by 1 3 begins at 2, one more than need be", x.tight(1), 7);
        SpanFacts y = Check.told(3, "2<1 1<0");
        Check.due("tight(60)", y.tight(60), 3);
    }

    private static void tightBeside() {
        Sentence.of(0, "BESIDE: X of one is X of the other and L less 1.");
        Check.due("by 1: as far apart as 0", Check.told(2, "0~1").tight(1), 1);
        Check.due("by 2: 0, not 1, apart", Check.told(2, "0~1").tight(2), 0);
        SpanFacts x = Check.told(3, "0<1 1~2 2~0");
        Check.due("by 2: 1 apart, either way", x.tight(2), 7);
        Check.due("by 3: 2 apart, 1 apart", x.tight(3), 3);
        SpanFacts y = Check.told(3, "0<1 2~1 0~2");
        Check.due("either way", y.tight(2), 7);
        Check.due("either way", y.tight(3), 3);
    }

    private static void chainOfEachTwo() {
        Sentence.of(0, "A CHAIN: a set of ITEMS, of each two one AHEAD of the other one; ");
        dueSets(3, "0<1 1<2", 7, 1);
        dueSets(3, "0<1 1~2 2~0", 3, 5);
        dueSets(8, CHAIN, 255, 1);
        dueSets(3, "2<1 1<0", 7, 1);
    }

    private static void crowdOfNone() {
        Sentence.of(0, "a CROWD: of none: ");
        dueSets(3, "", 1, 7);
        dueSets(3, "0<1 0<2", 3, 6);
        dueSets(3, "0<2 1<2", 5, 3);
        dueSets(8, "", 1, 255);
    }

    private static void mostItemsLeastBits() {
        Sentence.of(0, "of each the most ITEMS, of like ones the least number (bits).");
        dueSets(4, "0<1 2<3", 3, 5);
        dueSets(3, "2<0", 3, 6);
        dueSets(4, "1<2 2<3", 13, 3);
        dueSets(4, "1<0 2<0 3<0", 3, 14);
        dueSets(4, "3<2 2<1", 7, 9);
        dueSets(0, "", 0, 0);
        dueSets(1, "", 1, 1);
    }

    private static void dueSets(int n, String facts, int chain, int crowd) {
        SpanFacts x = Check.told(n, facts);
        Check.due("chain(1) with " + facts, x.chain(1), chain);
        Check.due("chain(0) with " + facts, x.chain(0), Integer.bitCount(chain));
        Check.due("crowd(1) with " + facts, x.crowd(1), crowd);
        Check.due("crowd(0) with " + facts, x.crowd(0), Integer.bitCount(crowd));
    }

    private static void roomsInOrder() {
        Sentence.of(0, "ROOMS: ITEMS by BEGINS, of like ones the least number first, ");
        dueRooms("", 8, 0, 1, 2, 3, 4, 5, 6, 7);
        dueRooms("3<0 2<1", 2, 0, 1, 0, 1);
        dueRooms("1<0", 2, 0, 0, 1);
        dueRooms("2<0", 2, 0, 0, 1);
        dueRooms("0<1 1~2 2~0 2<3", 2, 0, 0, 1, 1);
    }

    private static void firstRoom() {
        Sentence.of(0, "go each to the first ROOM (from 0) in which no ITEM is that is not AHEAD of it.");
        dueRooms("0<2 1<2", 2, 0, 1, 0);
        dueRooms("0<1 1<2", 1, 0, 0, 0);
        dueRooms("0<1 0<2 0<3", 3, 0, 0, 1, 2);
        dueRooms("0<3 0<4", 3, 0, 1, 2, 0, 1);
        dueRooms("0<5 0<6 0<7", 5, 0, 1, 2, 3, 4, 0, 1, 2);
        dueRooms("0<2 1<2 2<3 0<4 1<4 4~2", 2, 0, 1, 0, 0, 1);
        dueRooms(CHAIN, 1, 0, 0, 0, 0, 0, 0, 0, 0);
    }

    private static void dueRooms(String facts, int rooms, int... due) {
        SpanFacts x = Check.told(due.length, facts);
        Check.due("room(NONE) with " + facts, x.room(NONE), rooms);
        for (int i = 0; i < due.length; i++) {
            Check.due("room(" + i + ") with " + facts, x.room(i), due[i]);
        }
    }

    private static void shapeCounts() {
        Sentence.of(0, "SHAPE: of all ITEMS how many are AHEAD of it, the fewest first: ");
        dueShape("", 0, 0, 0, 0);
        dueShape("3<0 2<1", 0, 0, 2, 2);
        dueShape("3<2 2<1 1<0", 0, 1, 2, 3);
        dueShape("0<1 1~2 2~0", 0, 0, 1);
        dueShape("0<1 1~2 2~0 2<3", 0, 0, 1, 2);
        dueShape("1<0", 0, 0, 2);
    }

    private static void dueShape(String facts, int... due) {
        SpanFacts x = Check.told(due.length, facts);
        for (int i = 0; i < due.length; i++) {
            Check.due("shape(" + i + ") with " + facts, x.shape(i), due[i]);
        }
    }

    private static void shapeRow() {
        Sentence.of(0, "a row that does not go down, the i-th (from 0) i at most.");
        for (int seed = 1; seed <= 60; seed++) {
            SpanFacts x = Check.told(1 + seed % 8, "");
            x.drawn(25, seed * 1299709);
            int low = 0;
            for (int i = 0; i < x.now(0); i++) {
                int number = x.shape(i);
                Check.due("shape(" + i + ") of seed " + seed, number >= low && number <= i, true);
                low = number;
            }
        }
        SpanFacts y = Check.told(8, CHAIN);
        for (int i = 0; i < 8; i++) {
            Check.due("i at most", y.shape(i), i);
        }
    }

    private static void shapesInOrder() {
        Sentence.of(0, "Of so many ITEMS all such rows, in order (number by number the least): ");
        int[][] rows = {{0, 0, 0}, {0, 0, 1}, {0, 0, 2}, {0, 1, 1}, {0, 1, 2}};
        SpanFacts x = new SpanFacts();
        for (int r = 0; r < 5; r++) {
            x.make(3, r);
            for (int i = 0; i < 3; i++) {
                Check.due("rank " + r + ", number " + i, x.shape(i), rows[r][i]);
            }
        }
        for (int n = 1; n <= 8; n++) {
            Check.due("all rows of " + n, allRows(n), SHAPES[n]);
        }
    }

    /** Goes from row to row as an odometer does, and looks at the class's row of each rank. */
    private static int allRows(int n) {
        int[] row = new int[n];
        int number = 0;
        boolean more = true;
        while (more) {
            SpanFacts x = new SpanFacts();
            x.make(n, number);
            for (int i = 0; i < n; i++) {
                Check.due("of " + n + " rank " + number + ", number " + i, x.shape(i), row[i]);
            }
            Check.due("rank()", x.rank(), number);
            number++;
            more = nextRow(row);
        }
        return number;
    }

    private static boolean nextRow(int[] row) {
        for (int i = row.length - 1; i > 0; i--) {
            if (row[i] < i) {
                int up = row[i] + 1;
                for (int j = i; j < row.length; j++) {
                    row[j] = up;
                }
                return true;
            }
        }
        return false;
    }

    private static void rankCounts() {
        Sentence.of(0, "RANK of one: how many are ahead of it.");
        Check.due("the first of four", Check.told(4, "").rank(), 0);
        Check.due("0 0 2 2", Check.told(4, "3<0 2<1").rank(), 7);
        Check.due("0 0 1 2", Check.told(4, "0<1 1~2 2~0 2<3").rank(), 5);
        Check.due("the last of four", Check.told(4, "3<2 2<1 1<0").rank(), 13);
        Check.due("the last of eight", Check.told(8, CHAIN).rank(), 1429);
    }

    private static void hiddenForNone() {
        Sentence.of(0, "The constants: `HIDDEN = -1000000`: What is told for none where NONE could be so.");
        Check.due("HIDDEN", SpanFacts.HIDDEN, -1000000);
        Check.due("NONE", SpanFacts.NONE, -1);
        SpanFacts x = Check.told(2, "0~1");
        Check.due("NONE is so", x.gap(0, 1, 2, 0), -1);
        Check.due("none", x.gap(0, 2, 2, 0), -1000000);
        Check.due("what is not hidden is far from it", Check.told(8, CHAIN).gap(7, 0, 60, 1), -420);
    }

    private static void beginTo60() {
        Sentence.of(13, "BEGIN by a LENGTH (to 60). ");
        SpanFacts x = Check.told(8, CHAIN);
        for (int i = 0; i < 8; i++) {
            for (int length : new int[] {1, 2, 59, 60}) {
                Check.due("begin(" + i + ", " + length + ")", x.begin(i, length), i * length);
            }
        }
    }

    private static void beginRefused() {
        Sentence.of(13, "NONE: no such ITEM, it is below LEAST, above 60.");
        Check.due("of no items", new SpanFacts().begin(0, 1), NONE);
        SpanFacts x = Check.told(7, "0<1 1~2 2<3 3~4 4<5 5~6 6~0");
        for (int item : noItem(7)) {
            Check.due("begin(" + item + ", 5)", x.begin(item, 5), NONE);
        }
        for (int length : NO_LENGTH) {
            Check.due("begin(0, " + length + ")", x.begin(0, length), NONE);
        }
        for (int length = 1; length <= 3; length++) {
            Check.due("below the least: begin(0, " + length + ")", x.begin(0, length), NONE);
        }
        Check.due("the least: begin(0, 4)", x.begin(0, 4), 0);
        Check.due("begin(5, 4)", x.begin(5, 4), 6);
        Check.due("begin(5, 60)", x.begin(5, 60), 62);
    }

    private static void gapLeastAndMost() {
        Sentence.of(14, "Of all SPANS of a LENGTH (to 60) by which all FACTS hold X of b less X of a: the least (0), the most (1) there is. ");
        SpanFacts x = Check.told(8, CHAIN);
        for (int length : new int[] {1, 2, 59, 60}) {
            Check.due("gap(0, 7, " + length + ", 0)", x.gap(0, 7, length, 0), 7 * length);
            Check.due("gap(7, 0, " + length + ", 1)", x.gap(7, 0, length, 1), -7 * length);
        }
        SpanFacts y = Check.told(4, "0<1 1~2 2~0");
        Check.due("by the least length", y.gap(0, 1, 2, 0), 2);
        Check.due("by the least length", y.gap(0, 1, 2, 1), 2);
        Check.due("gap(0, 1, 3, 0)", y.gap(0, 1, 3, 0), 3);
        Check.due("gap(0, 1, 3, 1)", y.gap(0, 1, 3, 1), 4);
        Check.due("gap(1, 0, 3, 0)", y.gap(1, 0, 3, 0), -4);
        Check.due("gap(0, 2, 3, 0)", y.gap(0, 2, 3, 0), 1);
        Check.due("gap(0, 2, 3, 1)", y.gap(0, 2, 3, 1), 2);
        for (int what = 0; what < 2; what++) {
            Check.due("an item from itself", y.gap(0, 0, 2, what), 0);
            Check.due("an item from itself", y.gap(3, 3, 60, what), 0);
        }
    }

    private static void gapHidden() {
        Sentence.of(14, "HIDDEN: there is no least, no most, no such ones, the LENGTH is below LEAST, above 60.");
        SpanFacts x = Check.told(3, "0<1");
        Check.due("no most", x.gap(0, 1, 5, 1), HIDDEN);
        Check.due("no least", x.gap(1, 0, 5, 0), HIDDEN);
        Check.due("no least", x.gap(0, 2, 5, 0), HIDDEN);
        Check.due("no most", x.gap(0, 2, 5, 1), HIDDEN);
        gapsWithoutFacts();
        for (int item : noItem(3)) {
            for (int what = 0; what < 2; what++) {
                Check.due("gap(" + item + ", 0, 5, " + what + ")", x.gap(item, 0, 5, what), HIDDEN);
                Check.due("gap(0, " + item + ", 5, " + what + ")", x.gap(0, item, 5, what), HIDDEN);
                Check.due("gap(" + item + ", " + item + ", 5, " + what + ")", x.gap(item, item, 5, what), HIDDEN);
            }
        }
        for (int what : new int[] {LOW, -1, 2, 3, HIGH}) {
            Check.due("gap(0, 1, 5, " + what + ")", x.gap(0, 1, 5, what), HIDDEN);
            Check.due("gap(0, 0, 5, " + what + ")", x.gap(0, 0, 5, what), HIDDEN);
        }
        for (int length : NO_LENGTH) {
            Check.due("gap(0, 1, " + length + ", 0)", x.gap(0, 1, length, 0), HIDDEN);
            Check.due("gap(0, 0, " + length + ", 0)", x.gap(0, 0, length, 0), HIDDEN);
        }
        SpanFacts y = Check.told(7, "0<1 1~2 2<3 3~4 4<5 5~6 6~0");
        for (int length = 1; length <= 3; length++) {
            Check.due("below the least", y.gap(0, 1, length, 0), HIDDEN);
            Check.due("below the least", y.gap(0, 0, length, 1), HIDDEN);
        }
        Check.due("by the least", y.gap(0, 1, 4, 0), 4);
        Check.due("of no items", new SpanFacts().gap(0, 0, 1, 0), HIDDEN);
    }

    /** Two pairs of items: of each item of one and each of the other there is neither a least nor a most. */
    private static void gapsWithoutFacts() {
        for (String facts : new String[] {"0<1 2<3", "0~1 2~3", "1<0 3~2", "2~3 0<1"}) {
            SpanFacts x = Check.told(4, facts);
            for (int i = 0; i < 16; i++) {
                int a = i / 4;
                int b = 2 - a / 2 * 2 + i % 2;
                Check.due("gap(" + a + ", " + b + ", 9, 0) with " + facts, x.gap(a, b, 9, 0), HIDDEN);
                Check.due("gap(" + a + ", " + b + ", 9, 1) with " + facts, x.gap(a, b, 9, 1), HIDDEN);
            }
        }
    }

    private static void tightTo60() {
        Sentence.of(15, "TIGHT by a LENGTH (to 60) as bits; ");
        SpanFacts x = Check.told(8, CHAIN);
        for (int length : new int[] {1, 2, 59, 60}) {
            Check.due("tight(" + length + ")", x.tight(length), 127);
        }
        Check.due("of none", new SpanFacts().tight(60), 0);
        x.make(8, 0);
        Check.due("all 28", x.tight(1), (1 << 28) - 1);
        Check.due("none of 28", x.tight(2), 0);
    }

    private static void tightRefused() {
        Sentence.of(15, "NONE: it is below LEAST, above 60.");
        SpanFacts x = Check.told(7, "0<1 1~2 2<3 3~4 4<5 5~6 6~0");
        for (int length : NO_LENGTH) {
            Check.due("tight(" + length + ")", x.tight(length), NONE);
            Check.due("tight(" + length + ") of none", new SpanFacts().tight(length), NONE);
        }
        for (int length = 1; length <= 3; length++) {
            Check.due("below the least: tight(" + length + ")", x.tight(length), NONE);
        }
        Check.due("by the least", x.tight(4), 127);
        Check.due("above it", x.tight(5), 63);
    }

    private static void lateGreatest() {
        Sentence.of(21, "The greatest X that an ITEM has in SPANS of a LENGTH (to 60) by which all FACTS hold and no X is above w (0 to 999); ");
        SpanFacts x = Check.told(8, CHAIN);
        for (int i = 0; i < 8; i++) {
            Check.due("late(" + i + ", 60, 999)", x.late(i, 60, 999), 999 - 60 * (7 - i));
            Check.due("late(" + i + ", 60, 420)", x.late(i, 60, 420), 60 * i);
            Check.due("late(" + i + ", 1, 7)", x.late(i, 1, 7), i);
        }
        SpanFacts y = Check.told(4, "0<1 1<2 3~0");
        Check.due("beside one that has to go ahead", y.late(3, 3, 20), 16);
        Check.due("of which nothing behind it is told", y.late(2, 3, 20), 20);
        Check.due("late(3, 3, 6)", y.late(3, 3, 6), 2);
        Check.due("the first item is behind", Check.told(2, "1<0").late(1, 7, 20), 13);
        Check.due("the first item is behind", Check.told(2, "1<0").late(0, 7, 20), 20);
        Check.due("w 0", Check.told(1, "").late(0, 60, 0), 0);
        Check.due("w 999", Check.told(1, "").late(0, 60, 999), 999);
    }

    private static void lateNone() {
        Sentence.of(21, "NONE: there are none, no such ones.");
        SpanFacts x = Check.told(8, CHAIN);
        Check.due("there are none", x.late(0, 60, 419), NONE);
        Check.due("there are none for another item either", Check.told(3, "0<1").late(2, 9, 8), NONE);
        Check.due("there are some", Check.told(3, "0<1").late(2, 9, 9), 9);
        Check.due("there are none for the first item", Check.told(2, "1<0").late(1, 9, 8), NONE);
        Check.due("there are none", x.late(7, 1, 6), NONE);
        for (int w : new int[] {LOW, -1, 1000, 1001, HIGH}) {
            Check.due("late(0, 1, " + w + ")", x.late(0, 1, w), NONE);
        }
        for (int item : noItem(8)) {
            Check.due("late(" + item + ", 1, 50)", x.late(item, 1, 50), NONE);
        }
        for (int length : NO_LENGTH) {
            Check.due("late(0, " + length + ", 999)", x.late(0, length, 999), NONE);
        }
        SpanFacts y = Check.told(7, "0<1 1~2 2<3 3~4 4<5 5~6 6~0");
        for (int length = 1; length <= 3; length++) {
            Check.due("below the least", y.late(0, length, 999), NONE);
        }
        Check.due("by the least", y.late(5, 4, 999), 999);
        Check.due("of no items", new SpanFacts().late(0, 1, 5), NONE);
    }

    private static void aheadAnswers() {
        Sentence.of(22, "Whether an ITEM is AHEAD of another one in the ORDER: 1, 0; ");
        SpanFacts x = Check.told(8, CHAIN);
        for (int a = 0; a < 8; a++) {
            for (int b = 0; b < 8; b++) {
                Check.due("ahead(" + a + ", " + b + ")", x.ahead(a, b), a < b ? 1 : 0);
            }
        }
    }

    private static void aheadRefused() {
        Sentence.of(22, "NONE: no such ones.");
        Check.due("of no items", new SpanFacts().ahead(0, 0), NONE);
        SpanFacts x = Check.told(3, "0<1");
        for (int item : noItem(3)) {
            Check.due("ahead(" + item + ", 1)", x.ahead(item, 1), NONE);
            Check.due("ahead(0, " + item + ")", x.ahead(0, item), NONE);
            Check.due("ahead(" + item + ", " + item + ")", x.ahead(item, item), NONE);
        }
    }

    private static void chainAnswers() {
        Sentence.of(23, "CHAIN: how many ITEMS (0), which as bits (1); ");
        SpanFacts x = Check.told(8, CHAIN);
        Check.due("chain(0)", x.chain(0), 8);
        Check.due("chain(1)", x.chain(1), 255);
        x = Check.told(8, "7<6");
        Check.due("chain(0)", x.chain(0), 2);
        Check.due("chain(1)", x.chain(1), 65);
        Check.due("of no items: chain(0)", new SpanFacts().chain(0), 0);
        Check.due("of no items: chain(1)", new SpanFacts().chain(1), 0);
    }

    private static void chainRefused() {
        Sentence.of(23, "NONE: another what.");
        for (int what : new int[] {LOW, -2, -1, 2, 3, HIGH}) {
            Check.due("chain(" + what + ")", Check.told(3, "0<1").chain(what), NONE);
            Check.due("chain(" + what + ") of no items", new SpanFacts().chain(what), NONE);
        }
    }

    private static void crowdAnswers() {
        Sentence.of(24, "CROWD: likewise.");
        SpanFacts x = Check.told(8, "7<6");
        Check.due("crowd(0)", x.crowd(0), 7);
        Check.due("crowd(1)", x.crowd(1), 191);
        Check.due("of no items: crowd(0)", new SpanFacts().crowd(0), 0);
        Check.due("of no items: crowd(1)", new SpanFacts().crowd(1), 0);
        Check.due("all", Check.told(8, "").crowd(1), 255);
        for (int what : new int[] {LOW, -2, -1, 2, 3, HIGH}) {
            Check.due("crowd(" + what + ")", x.crowd(what), NONE);
            Check.due("crowd(" + what + ") of no items", new SpanFacts().crowd(what), NONE);
        }
    }

    private static void roomAnswers() {
        Sentence.of(25, "ROOMS: how many (item NONE), that of an ITEM; ");
        Check.due("of no items", new SpanFacts().room(NONE), 0);
        Check.due("of one", Check.told(1, "").room(NONE), 1);
        Check.due("of one: room(0)", Check.told(1, "").room(0), 0);
        dueRooms("", 8, 0, 1, 2, 3, 4, 5, 6, 7);
        dueRooms(CHAIN, 1, 0, 0, 0, 0, 0, 0, 0, 0);
        SpanFacts x = Check.told(8, "");
        for (int left = 8; left >= 0; left--) {
            Check.due("of " + left, x.room(NONE), left);
            x.drop(0);
        }
    }

    private static void roomRefused() {
        Sentence.of(25, "NONE: no such one.");
        Check.due("of no items", new SpanFacts().room(0), NONE);
        for (int item : new int[] {LOW, -1000000, -2, 3, 4, 8, HIGH}) {
            Check.due("room(" + item + ")", Check.told(3, "0<1").room(item), NONE);
        }
    }

    private static void shapeAnswers() {
        Sentence.of(26, "The i-th number of the SHAPE; ");
        dueShape("", 0);
        dueShape("1<0 2<0", 0, 0, 2);
        dueShape(CHAIN, 0, 1, 2, 3, 4, 5, 6, 7);
    }

    private static void shapeRefused() {
        Sentence.of(26, "NONE: none such.");
        Check.due("of no items", new SpanFacts().shape(0), NONE);
        for (int i : noItem(3)) {
            Check.due("shape(" + i + ")", Check.told(3, "0<1").shape(i), NONE);
        }
        Check.due("shape(8)", Check.told(8, "0<1").shape(8), NONE);
    }

    private static void rankAnswers() {
        Sentence.of(27, "RANK of the SHAPE.");
        Check.due("of no items", new SpanFacts().rank(), 0);
        Check.due("of one", Check.told(1, "").rank(), 0);
        Check.due("of two", Check.told(2, "").rank(), 0);
        Check.due("of two", Check.told(2, "1<0").rank(), 1);
        Check.due("the first of eight", Check.told(8, "").rank(), 0);
        Check.due("the last of eight", Check.told(8, "7<6 6<5 5<4 4<3 3<2 2<1 1<0").rank(), 1429);
        Check.due("0 0 0 0 0 0 0 7", Check.told(8, "3<4").rank(), 7);
    }

    private static void shapesAnswers() {
        Sentence.of(28, "How many SHAPES of n (0 to 12) ITEMS there are; ");
        for (int n = 0; n <= 12; n++) {
            Check.due("shapes(" + n + ")", new SpanFacts().shapes(n), SHAPES[n]);
            Check.due("shapes(" + n + ")", Check.told(8, "0<1").shapes(n), SHAPES[n]);
        }
    }

    private static void shapesRefused() {
        Sentence.of(28, "NONE: not as told.");
        for (int n : new int[] {LOW, -2, -1, 13, 14, 100, HIGH}) {
            Check.due("shapes(" + n + ")", new SpanFacts().shapes(n), NONE);
        }
    }
}
