/** Each promise by its number: ordinary inputs, the edges that the document names, wrong inputs. */
final class PromiseTest {
    private static final int NONE = SpanFacts.NONE;
    private static final int HIDDEN = SpanFacts.HIDDEN;
    private static final String ABC = "item a;item b;item c;";
    private static final String EIGHT = "item a;item b;item c;item d;item e;item f;item g;item h;";

    private PromiseTest() {
    }

    public static void main(String[] args) {
        newObject();
        feedAndEnd();
        notesRead();
        faultOne();
        faultTwoAndThree();
        faultFour();
        sevenHundred();
        nowAndFact();
        aboutAndTell();
        refutedAndRing();
        ringTies();
        forgetOne();
        beginAndTight();
        gaps();
        mayAndIdle();
        waysCounted();
        testAndYields();
        lateOnes();
        theOrder();
        rooms();
        shapesAndRank();
        makeOnes();
        finishOnes();
        growAndDrop();
        turnOnes();
        drawnOnes();
        undoOnes();
        images();
        Check.close("PromiseTest");
    }

    private static SpanFacts items(int n) {
        SpanFacts x = new SpanFacts();
        for (int i = 0; i < n; i++) {
            x.grow();
        }
        return x;
    }

    /** Promise 1. */
    private static void newObject() {
        SpanFacts x = new SpanFacts();
        Check.dueState("new", x, "0 items");
        Check.due("new: now(3)", x.now(3), 1);
        Check.due("new: now(4)", x.now(4), 0);
        Check.due("new: now(5)", x.now(5), 0);
        Check.due("new: fault()", x.fault(), 0);
        Check.due("new: undo()", x.undo(), NONE);
        Check.due("new: restore(0)", x.restore(0), false);
        Check.due("new: restore(1)", x.restore(1), false);
        for (int what = -1; what <= 4; what++) {
            Check.due("new: refuted(" + what + ")", x.refuted(what), NONE);
        }
    }

    /** Promises 2, 3. */
    private static void feedAndEnd() {
        SpanFacts x = new SpanFacts();
        for (int i = 1; i <= 37; i++) {
            Check.due("feed " + i, x.feed(-1, 0, 1, 2, 3), 20 * i);
        }
        Check.due("feed beyond 740", x.feed(0, 0, 0, 0, 0), NONE);
        Check.due("now(5)", x.now(5), 740);
        Check.due("end(741)", x.end(741), false);
        Check.due("end(740)", x.end(740), true);
        Check.due("end(721)", x.end(721), true);
        Check.due("feed at 721", x.feed(0, 0, 0, 0, 0), NONE);
        Check.due("now(5)", x.now(5), 721);
        Check.due("end(-1)", x.end(-1), false);
        Check.due("end(720)", x.end(720), true);
        Check.due("feed at 720", x.feed(0, 0, 0, 0, 0), 740);
        Check.due("end(0)", x.end(0), true);
        Check.due("end(1)", x.end(1), false);
        Check.due("now(5)", x.now(5), 0);
        Check.due("the highest byte first", x.feed(0x6974656d, 0x20613b20, 0x20202020, 0x20202020, 0x20202020), 20);
        Check.due("notes()", x.notes(), 1);
        Check.due("now(0)", x.now(0), 1);
        x.feed(0x6974656d, 0x20613b69, 0, 0, 0);
        x.end(7);
        x.feed(0x6974656d, 0x20623b20, 0x20202020, 0x20202020, 0x20202020);
        Check.due("bytes behind the cut are gone", x.notes(), 2);
    }

    /** Promise 4: what is read. */
    private static void notesRead() {
        SpanFacts x = new SpanFacts();
        Check.due("notes() of nothing", x.notes(), 0);
        Check.due("rows", Check.notes(x, ABC + "a before b;c beside a;"), 5);
        Check.dueState("notes", x, "3 items 0:0,1 1:2,0");
        Check.due("the tape is empty", x.now(5), 0);
        Check.due("blanks", Check.notes(x, "\n\n item  a\n; item\nb ;b\nbefore a;  "), 3);
        Check.dueState("blanks", x, "2 items 0:1,0");
        Check.due("no blanks", Check.notes(x, "item abcdefg;item b;abcdefg beside b;"), 3);
        Check.dueState("no blanks", x, "2 items 1:0,1");
        Check.due("names like words", Check.notes(x, "item items;item ite;item befores;items before ite;"), 4);
        Check.due("items between facts", Check.notes(x, "item z;item a;a before z;item b;b beside z;"), 5);
        Check.dueState("items between facts", x, "3 items 0:1,0 1:2,0");
        Check.due("blanks alone", Check.notes(x, "  \n "), 0);
        Check.dueState("blanks alone", x, "0 items");
        Check.notes(x, ABC + "a before b;");
        x.grow();
        x.tell(1, 3, 0);
        Check.due("a fault: all stays", Check.notes(x, "item a;item a;"), -13);
        Check.dueState("a fault: all stays", x, "4 items 0:0,1 1:3,0");
        Check.due("a fault: acts stay", x.now(4), 2);
        Check.due("a fault: the tape is empty", x.now(5), 0);
        Check.due("new notes", Check.notes(x, "item q;"), 1);
        Check.due("new notes: nothing can be undone", x.undo(), NONE);
        Check.due("all eight", Check.notes(x, EIGHT), 8);
    }

    private static void dueFault(String text, int kind, int place) {
        SpanFacts x = new SpanFacts();
        x.make(2, 1);
        String shown = text.length() > 60 ? ".." + text.substring(text.length() - 40) : text;
        Check.due("notes() of '" + shown + "'", Check.notes(x, text), -1 - place);
        Check.due("fault() of '" + shown + "'", x.fault(), kind);
        Check.dueState("all stays with '" + shown + "'", x, "2 items 0:0,1");
        Check.due("notes() of nothing", x.notes(), 0);
        Check.due("fault() without one", x.fault(), 0);
    }

    /** Promises 4, 5: no token, or one that can't come. */
    private static void faultOne() {
        dueFault(";", 1, 0);
        dueFault(" before a;", 1, 1);
        dueFault("beside", 1, 0);
        dueFault("item", 1, 4);
        dueFault("item   ", 1, 7);
        dueFault("item ;", 1, 5);
        dueFault("item item;", 1, 5);
        dueFault("item before;", 1, 5);
        dueFault("item beside;", 1, 5);
        dueFault("item a", 1, 6);
        dueFault("item a  ", 1, 8);
        dueFault("item a a;", 1, 7);
        dueFault("item a;;", 1, 7);
        dueFault("item abcdefgh;", 1, 5);
        dueFault("itema;", 2, 0);
        dueFault("item a,", 1, 6);
        dueFault("item a\t;", 1, 6);
        dueFault("item A;", 1, 5);
        dueFault("item a1;", 1, 6);
        dueFault("item \u00e9;", 1, 5);
        dueFault("item `;", 1, 5);
        dueFault("item {;", 1, 5);
        dueFault("\r", 1, 0);
        dueFault("\u0000", 1, 0);
        dueFault(ABC + "a b c;", 1, 23);
        dueFault(ABC + "a item c;", 1, 23);
        dueFault(ABC + "a before item;", 1, 30);
        dueFault(ABC + "a before before;", 1, 30);
        dueFault(ABC + "a before ;", 1, 30);
        dueFault(ABC + "a before b", 1, 31);
        dueFault(ABC + "a before b c;", 1, 32);
        dueFault(ABC + "a", 1, 22);
        dueFault(ABC + "a ;", 1, 23);
    }

    /** Promises 4, 5: names, pairs, a ninth item. */
    private static void faultTwoAndThree() {
        dueFault("item a;item b;item a;", 2, 19);
        dueFault("item a;item b;item a", 2, 19);
        dueFault("a before b;", 2, 0);
        dueFault("a;", 2, 0);
        dueFault("item a;b before a;", 2, 7);
        dueFault("item a;a before b;", 2, 16);
        dueFault("item a;a before b;item b;", 2, 16);
        dueFault("item a;a beside a;", 2, 16);
        dueFault("item a;a beside a", 2, 16);
        dueFault(ABC + "a before b;a beside b;", 2, 41);
        dueFault(ABC + "a before b;b before a;", 2, 41);
        dueFault(ABC + "a beside b;b before a", 2, 41);
        dueFault(EIGHT + "item i;", 3, 56);
        dueFault(EIGHT + " item a;", 3, 57);
        dueFault(EIGHT + "item", 3, 56);
        dueFault(EIGHT + "item ;", 3, 56);
        dueFault(EIGHT + "i before a;", 2, 56);
    }

    /** Promises 4, 5, 10, 11: a refuted fact of the text. */
    private static void faultFour() {
        dueFault(ABC + "a before b;b before c; c before a;", 4, 44);
        dueFault(ABC + "a before b;b before c;c beside a;", 4, 43);
        dueFault(ABC + "a before b;b before c;c before a", 1, 53);
        dueFault(ABC + "a before b;b before c;c before a,", 1, 53);
        dueFault(ABC + "a before b;b before c;c before d;", 2, 52);
        dueFault(ABC + "a before b;b before c;c before a;?", 4, 43);
        SpanFacts x = items(3);
        x.tell(0, 0, 1);
        x.tell(0, 1, 2);
        Check.due("tell", x.tell(1, 0, 2), -2);
        Check.due("ring(1)", x.ring(1), 0);
        Check.due("notes", Check.notes(x, ABC + "item d;c before b;b before a;d beside a;a beside c;"), -62);
        Check.due("fault()", x.fault(), 4);
        Check.due("refuted(0)", x.refuted(0), 3);
        Check.due("refuted(1)", x.refuted(1), 2);
        Check.due("refuted(2)", x.refuted(2), 0);
        Check.due("refuted(3)", x.refuted(3), 2);
        Check.due("ring(1)", x.ring(1), 0);
        Check.due("ring(2)", x.ring(2), 1);
        Check.dueState("all stays", x, "3 items 0:0,1 0:1,2");
        Check.due("notes without a fault", Check.notes(x, ABC), 3);
        Check.due("refuted() stays", x.refuted(0), 3);
    }

    private static String blanks(int n) {
        return Check.repeat(" ", n);
    }

    /** Promises 4, 5: texts of about 700 bytes. */
    private static void sevenHundred() {
        SpanFacts x = new SpanFacts();
        Check.due("700 bytes", Check.notes(x, blanks(693) + "item a;"), 1);
        Check.due("700 blanks", Check.notes(x, blanks(700)), 0);
        dueFault(blanks(701), 1, 700);
        dueFault(blanks(740), 1, 700);
        dueFault("item a;" + blanks(694), 1, 700);
        dueFault(blanks(694) + "item a;", 1, 700);
        dueFault(blanks(693) + "item a; ", 1, 700);
        dueFault(blanks(696) + "item", 1, 700);
        dueFault(blanks(697) + "item", 1, 700);
        dueFault(blanks(699) + ",", 1, 699);
        dueFault(blanks(700) + ",", 1, 700);
        dueFault(blanks(705) + ",", 1, 700);
        dueFault(blanks(699) + "abcdefg", 2, 699);
        dueFault(blanks(699) + "abcdefgh", 1, 699);
        dueFault(blanks(699) + "item ,", 1, 700);
        dueFault(blanks(699) + "items ,", 2, 699);
        dueFault("item b;" + blanks(687) + "item bc;", 1, 700);
        dueFault("item bc;" + blanks(686) + "item bc;", 2, 699);
        dueFault("item b;" + blanks(687) + "item b ;", 2, 699);
        dueFault(EIGHT + blanks(643) + "item i;", 3, 699);
        dueFault(EIGHT + blanks(644) + "item i;", 1, 700);
        String two = ABC + "a before b;b before c;";
        dueFault(two + blanks(700 - two.length() - 11) + "c before a;,", 4, 689);
        dueFault(two + blanks(700 - two.length() - 10) + "c before a;", 1, 700);
    }

    /** Promises 6, 7. */
    private static void nowAndFact() {
        SpanFacts x = items(4);
        x.tell(1, 3, 1);
        x.tell(0, 2, 0);
        x.tell(0, 0, 3);
        x.feed(0, 0, 0, 0, 0);
        Check.due("now(0)", x.now(0), 4);
        Check.due("now(1)", x.now(1), 3);
        Check.due("now(2)", x.now(2), 6);
        Check.due("now(3)", x.now(3), 1);
        Check.due("now(4)", x.now(4), 7);
        Check.due("now(5)", x.now(5), 20);
        Check.due("now(-1)", x.now(-1), NONE);
        Check.due("now(6)", x.now(6), NONE);
        Check.due("fact(0, 0)", x.fact(0, 0), 1);
        Check.due("fact(0, 1)", x.fact(0, 1), 3);
        Check.due("fact(0, 2)", x.fact(0, 2), 1);
        Check.due("fact(2, 0)", x.fact(2, 0), 0);
        Check.due("fact(2, 2)", x.fact(2, 2), 3);
        int[][] odd = {{3, 0}, {-1, 0}, {0, -1}, {0, 3}, {Integer.MAX_VALUE, 0}, {0, Integer.MIN_VALUE}};
        for (int[] o : odd) {
            Check.due("fact(" + o[0] + ", " + o[1] + ") throws", Check.throwsNoSuch(x, o[0], o[1]), true);
        }
        Check.dueState("throwing changes nothing", x, "4 items 1:3,1 0:2,0 0:0,3");
        SpanFacts y = items(7);
        int[][] long4 = {{0, 0, 1}, {1, 1, 2}, {0, 2, 3}, {1, 3, 4}, {0, 4, 5}, {1, 5, 6}, {1, 6, 0}};
        int[] least = {1, 1, 1, 1, 1, 1, 4};
        for (int i = 0; i < 7; i++) {
            Check.due("tell " + i, y.tell(long4[i][0], long4[i][1], long4[i][2]), i);
            Check.due("now(3) " + i, y.now(3), least[i]);
        }
    }

    /** Promises 8, 9. */
    private static void aboutAndTell() {
        SpanFacts x = items(3);
        Check.due("about", x.about(0, 1), NONE);
        Check.due("tell", x.tell(0, 1, 0), 0);
        Check.due("tell", x.tell(1, 1, 2), 1);
        Check.due("about(0, 1)", x.about(0, 1), 0);
        Check.due("about(1, 0)", x.about(1, 0), 0);
        Check.due("about(2, 1)", x.about(2, 1), 1);
        Check.due("about(0, 2)", x.about(0, 2), NONE);
        Check.due("about(1, 1)", x.about(1, 1), NONE);
        Check.due("about(-1, 1)", x.about(-1, 1), NONE);
        Check.due("about(1, 3)", x.about(1, 3), NONE);
        int[][] odd = {{0, 0, 0}, {0, 0, 3}, {1, -1, 0}, {2, 0, 2}, {-1, 0, 2}, {0, 1, 0}, {0, 0, 1}, {1, 2, 1}, {1, 1, 2}};
        for (int[] o : odd) {
            Check.due("tell(" + o[0] + ", " + o[1] + ", " + o[2] + ")", x.tell(o[0], o[1], o[2]), NONE);
        }
        Check.due("acts", x.now(4), 5);
        Check.due("refuted: 1 before 0, 1 beside 2, 0 before 2", x.tell(0, 0, 2), -2);
        Check.due("acts", x.now(4), 5);
        Check.dueState("tell", x, "3 items 0:1,0 1:1,2");
        Check.due("tell", x.tell(1, 0, 2), 2);
        Check.due("acts", x.now(4), 6);
        Check.dueState("tell", x, "3 items 0:1,0 1:1,2 1:0,2");
    }

    /** Promises 10, 11. */
    private static void refutedAndRing() {
        SpanFacts x = items(5);
        x.tell(0, 0, 1);
        x.tell(0, 1, 2);
        x.tell(1, 3, 2);
        Check.due("test: 0 1 2 3 0, as many before as beside", x.test(1, 0, 3), 4);
        Check.due("refuted(0)", x.refuted(0), 4);
        Check.due("refuted(1)", x.refuted(1), 2);
        Check.due("refuted(2)", x.refuted(2), 3);
        Check.due("refuted(3)", x.refuted(3), 0);
        Check.due("refuted(4)", x.refuted(4), NONE);
        Check.due("refuted(-1)", x.refuted(-1), NONE);
        for (int i = 1; i <= 3; i++) {
            Check.due("ring(" + i + ")", x.ring(i), i - 1);
        }
        Check.due("ring(0)", x.ring(0), NONE);
        Check.due("ring(4)", x.ring(4), NONE);
        Check.due("ring(-1)", x.ring(-1), NONE);
        Check.due("test that is not refuted", x.test(0, 0, 3), 0);
        Check.due("refuted() stays", x.refuted(0), 4);
        Check.due("yields", x.yields(0, 2, 0), 1);
        Check.due("may", x.may(0, 4), 7);
        x.drawn(40, 17);
        x.finish();
        Check.due("refuted() stays", x.refuted(0), 4);
        x.forget(0);
        x.drop(0);
        Check.due("by the number it had then", x.ring(3), 2);
        Check.due("by the number it had then", x.refuted(2), 3);
        x.notes();
        Check.due("refuted() stays", x.refuted(0), 4);
    }

    /** The ring of the fewest facts, then the one from the first item on, then the least numbers. */
    private static void ringTies() {
        SpanFacts x = items(6);
        x.tell(0, 4, 5);
        x.tell(0, 5, 2);
        x.tell(0, 3, 1);
        x.tell(0, 0, 3);
        x.tell(0, 1, 2);
        x.tell(0, 0, 1);
        Check.due("2 before 0: two ways of two, one of three", x.test(0, 2, 0), 3);
        Check.due("ring(1)", x.ring(1), 5);
        Check.due("ring(2)", x.ring(2), 4);
        Check.due("0 before 2 is not refuted", x.test(0, 0, 2), 0);
        SpanFacts y = items(4);
        y.tell(0, 3, 1);
        y.tell(0, 0, 2);
        y.tell(0, 2, 1);
        y.tell(0, 0, 3);
        Check.due("two rings of like length", y.test(1, 1, 0), 3);
        Check.due("the least number first", y.ring(1), 1);
        Check.due("ring(2)", y.ring(2), 2);
        Check.due("from", y.refuted(2), 1);
        Check.due("to", y.refuted(3), 0);
        Check.due("test", y.test(1, 0, 1), 3);
        Check.due("from the second one, as there is no other", y.refuted(2), 1);
        SpanFacts z = items(3);
        z.tell(1, 0, 1);
        Check.due("a ring of beside alone does not refute", z.test(1, 1, 2), 0);
    }

    /** Promise 12. */
    private static void forgetOne() {
        SpanFacts x = items(4);
        x.tell(0, 0, 1);
        x.tell(1, 1, 2);
        x.tell(0, 3, 2);
        Check.due("forget(3)", x.forget(3), NONE);
        Check.due("forget(-1)", x.forget(-1), NONE);
        Check.due("acts", x.now(4), 7);
        Check.due("forget(1)", x.forget(1), 2);
        Check.dueState("forget", x, "4 items 0:0,1 0:3,2");
        Check.due("acts", x.now(4), 8);
        Check.due("forget(1)", x.forget(1), 1);
        Check.due("forget(0)", x.forget(0), 0);
        Check.due("forget(0)", x.forget(0), NONE);
        Check.dueState("forget", x, "4 items");
    }

    /** Promises 13, 15. */
    private static void beginAndTight() {
        SpanFacts x = items(5);
        x.tell(0, 0, 1);
        x.tell(0, 1, 2);
        x.tell(1, 2, 3);
        x.tell(0, 0, 3);
        Check.due("begin(2, 1)", x.begin(2, 1), 2);
        Check.due("begin(3, 1)", x.begin(3, 1), 2);
        Check.due("begin(3, 60)", x.begin(3, 60), 61);
        Check.due("begin(2, 60)", x.begin(2, 60), 120);
        Check.due("begin(4, 60)", x.begin(4, 60), 0);
        Check.due("begin(5, 1)", x.begin(5, 1), NONE);
        Check.due("begin(-1, 1)", x.begin(-1, 1), NONE);
        Check.due("begin(0, 0)", x.begin(0, 0), NONE);
        Check.due("begin(0, -1)", x.begin(0, -1), NONE);
        Check.due("begin(0, 61)", x.begin(0, 61), NONE);
        Check.due("tight(1)", x.tight(1), 7);
        Check.due("tight(2)", x.tight(2), 7);
        Check.due("tight(0)", x.tight(0), NONE);
        Check.due("tight(60)", x.tight(60), 7);
        Check.due("tight(61)", x.tight(61), NONE);
        x.tell(1, 1, 3);
        Check.due("least", x.now(3), 2);
        Check.due("begin below the least", x.begin(0, 1), NONE);
        Check.due("tight below the least", x.tight(1), NONE);
        Check.due("begin(3, 2)", x.begin(3, 2), 3);
        Check.due("tight(2)", x.tight(2), 23);
        Check.due("tight(3)", x.tight(3), 7);
    }

    /** Promise 14. */
    private static void gaps() {
        SpanFacts x = items(4);
        x.tell(0, 0, 1);
        x.tell(1, 1, 2);
        Check.due("gap(0, 1, 5, 0)", x.gap(0, 1, 5, 0), 5);
        Check.due("gap(0, 1, 5, 1)", x.gap(0, 1, 5, 1), HIDDEN);
        Check.due("gap(1, 0, 5, 0)", x.gap(1, 0, 5, 0), HIDDEN);
        Check.due("gap(1, 0, 5, 1)", x.gap(1, 0, 5, 1), -5);
        Check.due("gap(1, 2, 5, 0)", x.gap(1, 2, 5, 0), -4);
        Check.due("gap(2, 1, 5, 1)", x.gap(2, 1, 5, 1), 4);
        Check.due("gap(0, 2, 5, 0)", x.gap(0, 2, 5, 0), 1);
        Check.due("gap(2, 0, 60, 1)", x.gap(2, 0, 60, 1), -1);
        Check.due("gap(1, 2, 2, 0): NONE could be so", x.gap(1, 2, 2, 0), -1);
        Check.due("gap(0, 3, 5, 0)", x.gap(0, 3, 5, 0), HIDDEN);
        Check.due("gap(3, 3, 5, 0)", x.gap(3, 3, 5, 0), 0);
        Check.due("gap(3, 3, 5, 1)", x.gap(3, 3, 5, 1), 0);
        Check.due("gap of no item", x.gap(0, 4, 5, 0), HIDDEN);
        Check.due("gap of no item", x.gap(-1, 0, 5, 0), HIDDEN);
        Check.due("gap of length 0", x.gap(0, 1, 0, 0), HIDDEN);
        Check.due("gap of length 61", x.gap(0, 1, 61, 0), HIDDEN);
        for (int what : new int[] {-1, 2, Integer.MIN_VALUE, Integer.MAX_VALUE}) {
            Check.due("gap(0, 1, 5, " + what + ")", x.gap(0, 1, 5, what), HIDDEN);
            Check.due("gap(1, 0, 5, " + what + ")", x.gap(1, 0, 5, what), HIDDEN);
        }
        x.tell(1, 0, 2);
        Check.due("gap below the least", x.gap(0, 1, 1, 0), HIDDEN);
        Check.due("gap(0, 1, 5, 1)", x.gap(0, 1, 5, 1), 8);
    }

    /** Promises 16, 20. */
    private static void mayAndIdle() {
        SpanFacts x = items(3);
        Check.due("may(0, 1)", x.may(0, 1), 7);
        x.tell(0, 0, 1);
        Check.due("not the one of them", x.may(0, 1), 7);
        Check.due("idle()", x.idle(), 0);
        x.tell(0, 1, 2);
        Check.due("may(0, 2)", x.may(0, 2), 1);
        Check.due("may(2, 0)", x.may(2, 0), 2);
        Check.due("may(0, 0)", x.may(0, 0), NONE);
        Check.due("may(0, 3)", x.may(0, 3), NONE);
        Check.due("may(-1, 0)", x.may(-1, 0), NONE);
        x.tell(0, 0, 2);
        Check.due("idle()", x.idle(), 4);
        SpanFacts y = items(4);
        y.tell(0, 0, 1);
        y.tell(1, 1, 2);
        Check.due("may(0, 2)", y.may(0, 2), 5);
        Check.due("may(2, 0)", y.may(2, 0), 6);
        y.tell(1, 2, 0);
        Check.due("may(0, 1)", y.may(0, 1), 7);
        SpanFacts z = items(3);
        z.make(3, 0);
        Check.due("may(0, 1) with beside", z.may(0, 1), 7);
        Check.due("idle()", z.idle(), 0);
        z.make(4, 1);
        Check.due("0 before 3, all else beside", z.now(2), 4);
        Check.due("1 before 2, either way, would make two before and two beside", z.idle(), 8);
        z.make(4, 5);
        Check.due("0 before 2, 3, 1 before 3", z.now(2), 22);
        Check.due("idle()", z.idle(), 4);
    }

    /** Promise 17: all labelled orders with a tolerance of 1 to 4 items are 1, 3, 19, 183. */
    private static void waysCounted() {
        int[] due = {1, 1, 3, 19, 183, 999, 999, 999, 999};
        for (int n = 0; n <= 8; n++) {
            Check.due("ways() of " + n, items(n).ways(), due[n]);
        }
        SpanFacts x = items(3);
        x.tell(0, 0, 1);
        x.tell(0, 1, 2);
        Check.due("ways()", x.ways(), 1);
        x.forget(1);
        Check.due("ways() of 1 and 2 with 0 before 1", x.ways(), 6);
        x.make(8, 77);
        Check.due("ways() of all told", x.ways(), 1);
        Check.due("nothing is changed", x.now(1), 28);
    }

    /** Promises 18, 19. */
    private static void testAndYields() {
        SpanFacts x = items(4);
        x.tell(0, 0, 1);
        x.tell(0, 1, 2);
        Check.due("test(0, 2, 0)", x.test(0, 2, 0), 3);
        Check.due("test(0, 0, 2)", x.test(0, 0, 2), 0);
        Check.due("test(1, 0, 2)", x.test(1, 0, 2), 3);
        Check.due("test(0, 0, 1)", x.test(0, 0, 1), NONE);
        Check.due("test(0, 0, 0)", x.test(0, 0, 0), NONE);
        Check.due("test(2, 0, 2)", x.test(2, 0, 2), NONE);
        Check.due("test(0, 0, 4)", x.test(0, 0, 4), NONE);
        Check.dueState("test changes nothing", x, "4 items 0:0,1 0:1,2");
        Check.due("acts", x.now(4), 6);
        Check.due("yields(0, 2, 0)", x.yields(0, 2, 0), 1);
        Check.due("yields(0, 0, 2)", x.yields(0, 0, 2), 0);
        Check.due("yields(0, 0, 1)", x.yields(0, 0, 1), NONE);
        Check.due("yields(3, 0, 2)", x.yields(3, 0, 2), NONE);
        Check.due("yields(0, 0, -1)", x.yields(0, 0, -1), NONE);
        x.tell(0, 0, 3);
        x.tell(0, 3, 2);
        Check.due("one of each ring", x.yields(0, 2, 0), 5);
        Check.due("one of each ring", x.yields(1, 2, 0), 5);
        SpanFacts y = items(8);
        for (int i = 1; i <= 6; i++) {
            y.tell(0, 0, i);
            y.tell(0, i, 7);
            int due = i == 1 ? 1 : i == 2 ? 5 : i == 3 ? 21 : -2;
            Check.due("yields with " + i + " rings", y.yields(0, 7, 0), due);
        }
        Check.dueState("yields changes nothing", x, "4 items 0:0,1 0:1,2 0:0,3 0:3,2");
        Check.due("refuted() is not told by yields", y.refuted(0), NONE);
    }

    /** Promise 21. */
    private static void lateOnes() {
        SpanFacts x = items(4);
        x.tell(0, 0, 1);
        x.tell(0, 1, 2);
        x.tell(1, 3, 0);
        Check.due("late(0, 3, 20)", x.late(0, 3, 20), 14);
        Check.due("late(3, 3, 20)", x.late(3, 3, 20), 16);
        Check.due("late(1, 3, 20)", x.late(1, 3, 20), 17);
        Check.due("late(2, 3, 20)", x.late(2, 3, 20), 20);
        Check.due("late(0, 3, 6)", x.late(0, 3, 6), 0);
        Check.due("late(3, 3, 6)", x.late(3, 3, 6), 2);
        Check.due("late(3, 3, 5)", x.late(3, 3, 5), NONE);
        Check.due("late(2, 60, 999)", x.late(2, 60, 999), 999);
        Check.due("late(2, 60, 1000)", x.late(2, 60, 1000), NONE);
        Check.due("late(2, 1, -1)", x.late(2, 1, -1), NONE);
        Check.due("late(2, 61, 999)", x.late(2, 61, 999), NONE);
        Check.due("late(2, 0, 999)", x.late(2, 0, 999), NONE);
        Check.due("late(4, 1, 999)", x.late(4, 1, 999), NONE);
        Check.due("late(-1, 1, 999)", x.late(-1, 1, 999), NONE);
        Check.due("late(0, 1, 0)", items(1).late(0, 1, 0), 0);
        x.tell(1, 3, 1);
        Check.due("late below the least", x.late(0, 1, 999), NONE);
        Check.due("late(0, 2, 999)", x.late(0, 2, 999), 995);
    }

    /** Promises 22, 23, 24. */
    private static void theOrder() {
        SpanFacts x = items(5);
        x.tell(0, 3, 1);
        x.tell(1, 1, 4);
        x.tell(1, 3, 4);
        Check.due("least", x.now(3), 2);
        Check.due("ahead(3, 1)", x.ahead(3, 1), 1);
        Check.due("ahead(1, 3)", x.ahead(1, 3), 0);
        Check.due("ahead(0, 1), of which nothing is told", x.ahead(0, 1), 1);
        Check.due("ahead(3, 4)", x.ahead(3, 4), 0);
        Check.due("ahead(2, 2)", x.ahead(2, 2), 0);
        Check.due("ahead(2, 5)", x.ahead(2, 5), NONE);
        Check.due("ahead(-1, 2)", x.ahead(-1, 2), NONE);
        Check.due("chain(0)", x.chain(0), 2);
        Check.due("chain(1): 0 and 1", x.chain(1), 3);
        Check.due("crowd(0)", x.crowd(0), 4);
        Check.due("crowd(1)", x.crowd(1), 29);
        for (int what : new int[] {-1, 2, 99}) {
            Check.due("chain(" + what + ")", x.chain(what), NONE);
            Check.due("crowd(" + what + ")", x.crowd(what), NONE);
        }
        SpanFacts y = items(4);
        Check.due("chain(1) of equals", y.chain(1), 1);
        Check.due("crowd(1) of equals", y.crowd(1), 15);
        y.tell(0, 2, 0);
        y.tell(0, 0, 3);
        y.tell(0, 2, 1);
        Check.due("chain(1)", y.chain(1), 13);
        Check.due("crowd(1)", y.crowd(1), 3);
    }

    /** Promise 25. */
    private static void rooms() {
        SpanFacts x = items(5);
        x.tell(0, 3, 1);
        x.tell(1, 1, 4);
        x.tell(1, 3, 4);
        int[] due = {0, 0, 1, 2, 3};
        for (int i = 0; i < 5; i++) {
            Check.due("room(" + i + ")", x.room(i), due[i]);
        }
        Check.due("room(NONE)", x.room(NONE), 4);
        Check.due("room(5)", x.room(5), NONE);
        Check.due("room(-2)", x.room(-2), NONE);
        SpanFacts y = items(4);
        y.tell(0, 3, 0);
        y.tell(0, 2, 1);
        Check.due("1, 2 go first", y.room(2), 0);
        Check.due("room(3)", y.room(3), 1);
        Check.due("room(0)", y.room(0), 0);
        Check.due("room(1)", y.room(1), 1);
        Check.due("rooms", y.room(NONE), 2);
    }

    /** Promises 26, 27, 28. */
    private static void shapesAndRank() {
        int[] many = {1, 1, 2, 5, 14, 42, 132, 429, 1430, 4862, 16796, 58786, 208012};
        SpanFacts x = new SpanFacts();
        for (int n = 0; n <= 12; n++) {
            Check.due("shapes(" + n + ")", x.shapes(n), many[n]);
        }
        Check.due("shapes(13)", x.shapes(13), NONE);
        Check.due("shapes(-1)", x.shapes(-1), NONE);
        x = items(5);
        x.tell(0, 3, 1);
        x.tell(1, 1, 4);
        x.tell(1, 3, 4);
        int[] row = {0, 0, 0, 0, 3};
        for (int i = 0; i < 5; i++) {
            Check.due("shape(" + i + ")", x.shape(i), row[i]);
        }
        Check.due("shape(5)", x.shape(5), NONE);
        Check.due("shape(-1)", x.shape(-1), NONE);
        Check.due("rank()", x.rank(), 3);
        for (int n = 1; n <= 8; n++) {
            for (int r = 0; r < many[n]; r += 1 + r % 3) {
                x.make(n, r);
                Check.due("rank() of make(" + n + ", " + r + ")", x.rank(), r);
            }
        }
        Check.due("rank() of no items", new SpanFacts().rank(), 0);
    }

    /** Promise 29. */
    private static void makeOnes() {
        SpanFacts x = items(2);
        String[] due = {"1:0,1 1:0,2 1:1,2", "1:0,1 0:0,2 1:1,2", "1:0,1 0:0,2 0:1,2", "0:0,1 0:0,2 1:1,2",
            "0:0,1 0:0,2 0:1,2"};
        for (int r = 0; r < 5; r++) {
            Check.due("make(3, " + r + ")", x.make(3, r), 3);
            Check.dueState("make(3, " + r + ")", x, "3 items " + due[r]);
        }
        Check.due("make(1, 0)", x.make(1, 0), 0);
        Check.dueState("make(1, 0)", x, "1 items");
        int[][] odd = {{0, 0}, {-1, 0}, {9, 0}, {1, 1}, {3, 5}, {3, -1}, {8, 1430}, {8, Integer.MIN_VALUE}};
        int acts = x.now(4);
        for (int[] o : odd) {
            Check.due("make(" + o[0] + ", " + o[1] + ")", x.make(o[0], o[1]), NONE);
        }
        Check.due("acts", x.now(4), acts);
        Check.dueState("nothing is made", x, "1 items");
        Check.due("make(8, 1429)", x.make(8, 1429), 28);
    }

    /** Promise 30. */
    private static void finishOnes() {
        SpanFacts x = items(4);
        x.tell(0, 2, 0);
        x.tell(1, 2, 1);
        Check.due("finish()", x.finish(), 4);
        Check.dueState("finish", x, "4 items 0:2,0 1:2,1 0:1,0 0:0,3 0:1,3 0:2,3");
        Check.due("finish() again", x.finish(), 0);
        Check.due("acts", x.now(4), 7);
        Check.due("undo()", x.undo(), 6);
        Check.dueState("undo", x, "4 items 0:2,0 1:2,1");
        SpanFacts y = items(3);
        y.tell(0, 2, 1);
        y.tell(0, 1, 0);
        Check.due("finish()", y.finish(), 1);
        Check.dueState("b before a", y, "3 items 0:2,1 0:1,0 0:2,0");
        SpanFacts z = items(4);
        z.tell(0, 0, 3);
        z.tell(1, 0, 1);
        z.tell(1, 2, 0);
        z.tell(1, 1, 3);
        z.tell(1, 2, 3);
        Check.due("finish()", z.finish(), 1);
        Check.dueState("beside", z, "4 items 0:0,3 1:0,1 1:2,0 1:1,3 1:2,3 1:1,2");
        Check.due("finish()", new SpanFacts().finish(), 0);
    }

    /** Promises 31, 32. */
    private static void growAndDrop() {
        SpanFacts x = new SpanFacts();
        for (int i = 0; i < 8; i++) {
            Check.due("grow()", x.grow(), i);
        }
        Check.due("a ninth", x.grow(), NONE);
        Check.due("items", x.now(0), 8);
        x.tell(0, 7, 0);
        x.tell(1, 3, 4);
        x.tell(0, 4, 7);
        x.tell(1, 2, 6);
        Check.due("drop(8)", x.drop(8), NONE);
        Check.due("drop(-1)", x.drop(-1), NONE);
        Check.due("drop(4)", x.drop(4), 7);
        Check.dueState("drop", x, "7 items 0:6,0 1:2,5");
        Check.due("undo", x.undo(), 7);
        Check.dueState("undo", x, "8 items 0:7,0 1:3,4 0:4,7 1:2,6");
        SpanFacts y = items(1);
        Check.due("drop(0)", y.drop(0), 0);
        Check.due("acts", y.now(4), 2);
        Check.due("drop(0)", y.drop(0), NONE);
        Check.due("acts", y.now(4), 2);
    }

    /** Promise 33. */
    private static void turnOnes() {
        SpanFacts x = items(3);
        Check.due("turn() of none", x.turn(), 0);
        Check.due("acts", x.now(4), 3);
        x.tell(1, 2, 0);
        Check.due("turn() of beside", x.turn(), 0);
        Check.due("acts", x.now(4), 4);
        x.tell(0, 1, 2);
        Check.due("turn()", x.turn(), 1);
        Check.dueState("turn", x, "3 items 1:2,0 0:2,1");
        Check.due("acts", x.now(4), 6);
        Check.due("undo()", x.undo(), 5);
        Check.dueState("undo", x, "3 items 1:2,0 0:1,2");
    }

    /** Promise 34; the draws of seed 1 are worked out beside it by the document's words. */
    private static void drawnOnes() {
        SpanFacts x = items(5);
        for (int n : new int[] {0, -1, 61, Integer.MAX_VALUE}) {
            Check.due("drawn(" + n + ", 1)", x.drawn(n, 1), NONE);
        }
        Check.due("acts", x.now(4), 5);
        for (int seed = -3; seed <= 3; seed++) {
            SpanFacts y = items(2);
            int s = seed * 1103515245 + 12345;
            boolean told = (s >>> 8) % 8 != 0;
            s = s * 1103515245 + 12345;
            int a = (s >>> 8) % 2;
            s = s * 1103515245 + 12345;
            s = s * 1103515245 + 12345;
            int kind = (s >>> 8) % 2;
            Check.due("drawn(1, " + seed + ")", y.drawn(1, seed), told ? 1 : 0);
            Check.dueState("drawn(1, " + seed + ")", y, told ? "2 items " + kind + ":" + a + "," + (1 - a) : "2 items");
            Check.due("acts", y.now(4), told ? 3 : 2);
        }
        Check.due("drawn of no items", new SpanFacts().drawn(60, 5), 0);
        Check.due("drawn of one item", items(1).drawn(60, 5), 0);
        Check.due("drawn(60, 9)", x.drawn(60, 9) > 0, true);
        Check.due("one act", x.now(4), 6);
        Check.due("undo()", x.undo(), 5);
        Check.dueState("undo", x, "5 items");
    }

    /** Promise 35. */
    private static void undoOnes() {
        SpanFacts x = items(8);
        Check.due("acts", x.now(4), 8);
        x.tell(0, 0, 1);
        Check.due("eight at most", x.now(4), 8);
        x.tell(0, 1, 2);
        x.forget(0);
        x.turn();
        x.make(3, 4);
        x.drop(1);
        x.finish();
        x.grow();
        x.finish();
        Check.dueState("acts", x, "3 items 0:0,1 0:0,2 0:1,2");
        String[] due = {"3 items 0:0,1", "2 items 0:0,1", "3 items 0:0,1 0:0,2 0:1,2", "8 items 0:2,1",
            "8 items 0:1,2", "8 items 0:0,1 0:1,2", "8 items 0:0,1", "8 items"};
        for (int i = 0; i < 8; i++) {
            Check.due("undo() " + i, x.undo(), 7 - i);
            Check.dueState("undo() " + i, x, due[i]);
        }
        Check.due("undo() of none", x.undo(), NONE);
        Check.dueState("undo() of none", x, "8 items");
        x.tell(0, 0, 0);
        x.forget(0);
        x.make(0, 0);
        x.grow();
        x.drop(8);
        x.turn();
        x.drawn(0, 0);
        x.image(0);
        Check.due("nothing to undo", x.undo(), NONE);
    }

    /** Promises 36, 37. */
    private static void images() {
        SpanFacts x = items(3);
        x.tell(0, 0, 1);
        Check.due("image(-1)", x.image(-1), false);
        Check.due("image(2)", x.image(2), false);
        Check.due("restore(0)", x.restore(0), false);
        Check.due("image(0)", x.image(0), true);
        Check.due("acts stay", x.now(4), 4);
        x.tell(0, 1, 2);
        x.test(0, 2, 0);
        Check.due("image(1)", x.image(1), true);
        Check.notes(x, "item a;item a;");
        Check.notes(x, "item a;item b;a before a");
        x.feed(1, 2, 3, 4, 5);
        Check.due("restore(2)", x.restore(2), false);
        Check.due("restore(-1)", x.restore(-1), false);
        Check.due("acts stay", x.now(4), 5);
        Check.due("restore(0)", x.restore(0), true);
        Check.dueState("restore(0)", x, "3 items 0:0,1");
        Check.due("nothing can be undone", x.undo(), NONE);
        Check.due("the tape stays", x.now(5), 20);
        Check.due("fault() stays", x.fault(), 2);
        Check.due("refuted() stays", x.refuted(0), 3);
        Check.due("restore(1)", x.restore(1), true);
        Check.dueState("restore(1)", x, "3 items 0:0,1 0:1,2");
        x.forget(0);
        x.drop(0);
        Check.due("an image is not changed with the facts", x.restore(1), true);
        Check.dueState("restore(1)", x, "3 items 0:0,1 0:1,2");
        x.end(0);
        Check.notes(x, "item a;");
        Check.due("images stay with new notes", x.restore(0), true);
        Check.dueState("restore(0)", x, "3 items 0:0,1");
        x.drop(2);
        x.image(0);
        x.grow();
        x.restore(0);
        Check.dueState("the latest image", x, "2 items 0:0,1");
    }
}
