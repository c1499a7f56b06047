/** Boundary cases of texts and of the tape: the Terms' first part, promises 1 to 5. */
final class TextEdges {
    private static final int NONE = SpanFacts.NONE;
    private static final String ABC = "item a;item b;item c;";
    private static final String EIGHT = "item a;item b;item c;item d;item e;item f;item g;item h;";
    private static final String ROWS = ABC + "a before b;b before c;";
    private static final String LONG_WORD = "abcdefgh";

    /** What stands ahead in a row, by what may come next. */
    private static final String[] OPEN = {"", "item ", "item d ", "a ", "a before ", "a beside ", "a before b "};

    private TextEdges() {
    }

    static void run() {
        blanks();
        words();
        sign();
        atMostSevenHundred();
        manyRows();
        tokensThatCome();
        names();
        nameToldOnce();
        eightItems();
        unlikeItems();
        oneOfEachTwo();
        factsNumbered();
        firstAlongTheText();
        leastOfOneToken();
        tokensThatCannotCome();
        theEnd();
        moreThanSevenHundred();
        readWhole();
        nameToldTwice();
        nameNotTold();
        secondIsFirst();
        factWasTold();
        ninthItem();
        refutedFact();
        refutedBehindOthers();
        newObject();
        feedBytes();
        feedFull();
        endCuts();
        endRefused();
        notesEmptyTheTape();
        notesCountRows();
        notesWithFault();
        faultKinds();
    }

    private static String spaces(int n) {
        return Check.repeat(" ", n);
    }

    /** A text with blanks ahead of its last part, which begins at the place. */
    private static String padded(String head, int place, String tail) {
        return head + spaces(place - head.length()) + tail;
    }

    private static String shown(String text) {
        return text.length() > 70 ? text.length() + " bytes, at last '" + text.substring(text.length() - 50) + "'" : "'" + text + "'";
    }

    private static void dueFault(String text, int kind, int place) {
        SpanFacts x = Check.told(2, "0<1");
        Check.due("notes() of " + shown(text), Check.notes(x, text), -1 - place);
        Check.due("fault() of " + shown(text), x.fault(), kind);
        Check.dueFacts("all stays with " + shown(text), x, 2, "0<1");
        Check.due("acts stay with " + shown(text), x.now(4), 3);
        Check.due("the tape with " + shown(text), x.now(5), 0);
    }

    private static void dueRows(String text, int rows) {
        SpanFacts x = Check.told(2, "0<1");
        Check.due("notes() of " + shown(text), Check.notes(x, text), rows);
        Check.due("fault() of " + shown(text), x.fault(), 0);
        Check.due("acts with " + shown(text), x.now(4), 0);
        Check.due("the tape with " + shown(text), x.now(5), 0);
    }

    private static boolean isBlank(int sign) {
        return sign == 32 || sign == 10;
    }

    private static boolean isLetter(int sign) {
        return sign >= 97 && sign <= 122;
    }

    private static void blanks() {
        Sentence.of(0, "TOKENS of a text, with blanks (32, 10) between them or not: ");
        for (int sign = 0; sign < 256; sign++) {
            String text = "item" + (char) sign + "a;";
            if (isBlank(sign)) {
                dueRows(text, 1);
            } else {
                dueFault(text, isLetter(sign) ? 2 : 1, isLetter(sign) ? 0 : 4);
            }
        }
        dueRowsOf("item a;item b;a before b;", 3);
        dueRowsOf("\n item\n\n a  ;\nitem  b\n;\na\nbefore\nb\n;\n ", 3);
    }

    private static void dueRowsOf(String text, int rows) {
        dueRows(text, rows);
        SpanFacts x = new SpanFacts();
        Check.notes(x, text);
        Check.dueFacts(shown(text), x, 2, "0<1");
    }

    private static void words() {
        Sentence.of(0, "WORDS: small letters, 1 to 7 (a WORD goes on as long as small letters do); ");
        for (int n = 1; n <= 7; n++) {
            dueRows("item " + Check.repeat("z", n) + ";", 1);
        }
        for (int n : new int[] {8, 9, 12, 13, 14, 40, 600}) {
            dueFault("item " + Check.repeat("z", n) + ";", 1, 5);
            dueFault("item a;" + Check.repeat("a", n) + " before a;", 1, 7);
        }
        for (int sign = 0; sign < 256; sign++) {
            String text = "item a" + (char) sign + ";";
            if (isBlank(sign) || isLetter(sign)) {
                dueRows(text, 1);
            } else {
                dueFault(text, 1, sign == ';' ? 7 : 6);
            }
        }
        dueRows("item abcdefg;item abcdefh;item abcdef;item bbcdefg;", 4);
        dueRows("item a;item aa;item aaa;item aaaa;item aaaaa;item aaaaaa;item aaaaaaa;", 7);
        dueRows("item abefore;item iteme;", 2);
        dueFault("itema;", 2, 0);
        dueFault(ABC + "abefore b;", 2, 21);
        dueFault(ABC + "a beforeb;", 1, 23);
        dueFault(ABC + "a besidebb;", 1, 23);
    }

    private static void sign() {
        Sentence.of(0, "the sign ;");
        for (int sign = 0; sign < 256; sign++) {
            String text = "item a " + (char) sign;
            if (sign == ';') {
                dueRows(text, 1);
            } else {
                dueFault(text, 1, isBlank(sign) ? 8 : 7);
            }
        }
        dueRows("item a ; item b;", 2);
    }

    private static void atMostSevenHundred() {
        Sentence.of(0, "NOTES are a text of at most 700 bytes: ");
        dueRows("", 0);
        dueRows(spaces(699), 0);
        dueRows(spaces(700), 0);
        dueRows(padded("item a;", 693, "item b;"), 2);
        dueFault(spaces(701), 1, 700);
        dueFault(padded("item a;", 694, "item b;"), 1, 700);
    }

    private static void manyRows() {
        Sentence.of(0, "{ ROW ; }. ");
        dueRows("", 0);
        dueRows("item a;", 1);
        dueRows(EIGHT + allPairs(), 36);
        dueFault("item a", 1, 6);
        dueFault("item a;;", 1, 7);
        dueFault(";item a;", 1, 0);
        dueFault(EIGHT + allPairs() + ";", 1, 56 + 28 * 11);
        dueFault(EIGHT + allPairs() + "a", 1, 56 + 28 * 11 + 1);
    }

    /** Of each two of eight the one before the other. */
    private static String allPairs() {
        StringBuilder s = new StringBuilder();
        for (char a = 'a'; a <= 'h'; a++) {
            for (char b = (char) (a + 1); b <= 'h'; b++) {
                s.append(a).append(" before ").append(b).append(';');
            }
        }
        return s.toString();
    }

    /** For each place in a row each token that can come there, with no fault at it. */
    private static void tokensThatCome() {
        Sentence.of(0, "ROW: 'item' NAME | NAME 'before' NAME | NAME 'beside' NAME. ");
        String[][] come = {{"item", "a", "b", "c"}, {"d", "x", "abcdefg"}, {";"}, {"before", "beside"}, {"b", "c"},
            {"b", "c"}, {";"}};
        for (int s = 0; s < OPEN.length; s++) {
            String head = ABC + OPEN[s];
            for (String token : come[s]) {
                if (token.equals(";")) {
                    dueRows(head + token, 4);
                } else {
                    dueFault(head + token, 1, head.length() + token.length());
                }
            }
        }
        SpanFacts x = new SpanFacts();
        Check.due("notes()", Check.notes(x, ABC + "b before a;c beside b;"), 5);
        Check.dueFacts("notes()", x, 3, "1<0 2~1");
    }

    private static void names() {
        Sentence.of(0, "NAME: a WORD, none of these three");
        for (String three : new String[] {"item", "before", "beside"}) {
            dueFault("item " + three + ";", 1, 5);
            dueFault(ABC + "a before " + three + ";", 1, 30);
            dueFault(ABC + "a beside " + three + ";", 1, 30);
        }
        dueFault("before beside item;", 1, 0);
        dueFault("beside before item;", 1, 0);
        dueRows("item ite;item items;item tem;item befor;item befores;item besid;item besides;item efore;", 8);
        dueRows("item items;item befores;items before befores;", 3);
    }

    private static void nameToldOnce() {
        Sentence.of(0, "an ITEM's is told once. ");
        dueFault("item a;item a;", 2, 12);
        dueFault(EIGHT.substring(0, 49) + "item a;", 2, 54);
        dueFault(EIGHT.substring(0, 49) + "item g;", 2, 54);
        dueFault(ABC + "a before b;item b;", 2, 37);
        dueRows("item a;item aa;item b;item ab;", 4);
        SpanFacts x = new SpanFacts();
        Check.due("in one text", Check.notes(x, "item a;"), 1);
        Check.due("in another text", Check.notes(x, "item a;"), 1);
    }

    private static void eightItems() {
        Sentence.of(0, "8 ITEMS at most, numbered from 0 as told; ");
        dueRows(EIGHT, 8);
        dueFault(EIGHT + "item i;", 3, 56);
        SpanFacts x = new SpanFacts();
        Check.due("notes()", Check.notes(x, EIGHT + "h before a;b beside g;"), 10);
        Check.dueFacts("notes()", x, 8, "7<0 1~6");
        Check.notes(x, "item h;item a;h before a;");
        Check.dueFacts("as told, not by name", x, 2, "0<1");
    }

    private static void unlikeItems() {
        Sentence.of(0, "a FACT is told of two unlike ITEMS, ");
        dueFault("item a;a before a;", 2, 16);
        dueFault("item a;a beside a;", 2, 16);
        dueRows("item a;item b;b beside a;", 3);
    }

    private static void oneOfEachTwo() {
        Sentence.of(0, "one of each two (in whatever order); ");
        for (String first : new String[] {"a before b;", "a beside b;", "b before a;", "b beside a;"}) {
            for (String second : new String[] {"a before b;", "a beside b;", "b before a;", "b beside a;"}) {
                dueFault(ABC + first + second, 2, 41);
            }
            dueRows(ABC + first + "a beside c;", 5);
        }
    }

    private static void factsNumbered() {
        Sentence.of(0, "FACTS are numbered from 0 as told. ");
        SpanFacts x = new SpanFacts();
        Check.due("all that can be told", Check.notes(x, EIGHT + allPairs()), 36);
        Check.due("facts", x.now(1), 28);
        int k = 0;
        for (int a = 0; a < 8; a++) {
            for (int b = a + 1; b < 8; b++) {
                Check.due("fact(" + k + ", 0)", x.fact(k, 0), 0);
                Check.due("fact(" + k + ", 1)", x.fact(k, 1), a);
                Check.due("fact(" + k + ", 2)", x.fact(k, 2), b);
                k++;
            }
        }
        Check.notes(x, ABC + "c beside b;a before c;item d;d beside a;");
        Check.dueFacts("as told", x, 4, "2~1 0<2 3~0");
    }

    private static void firstAlongTheText() {
        Sentence.of(0, "FAULTS, the first along the text, ");
        dueFault("?item a;item a;", 1, 0);
        dueFault("item a;item a;?", 2, 12);
        dueFault("item a;item a?", 2, 12);
        dueFault(EIGHT + "item i;a before a;", 3, 56);
        dueFault(EIGHT + "item a?", 3, 56);
        dueFault(EIGHT + "a before a;item i;", 2, 65);
        dueFault(ROWS + "c before a;a before a;", 4, 43);
        dueFault(ROWS + "a before a;c before a;", 2, 52);
        dueFault(ROWS + "c before a;c beside a;", 4, 43);
        dueFault("x before y?", 2, 0);
        dueFault("item a;a before y?", 2, 16);
    }

    private static void leastOfOneToken() {
        Sentence.of(0, "of one TOKEN the least: ");
        dueFault(EIGHT + "a item i;", 1, 58);
        dueFault(EIGHT + "a before item;", 1, 65);
        dueFault(EIGHT + "a before b item;", 1, 67);
        dueFault(EIGHT + LONG_WORD + " before a;", 1, 56);
        dueFault("item a;item " + LONG_WORD + ";item " + LONG_WORD + ";", 1, 12);
        dueFault("item a;a before " + LONG_WORD + ";", 1, 16);
        dueFault("item a;a x a;", 1, 9);
    }

    /** For each place in a row each token that can't come there, and each sign that is no token. */
    private static void tokensThatCannotCome() {
        Sentence.of(0, "1 no TOKEN, or one that can't come (at it; ");
        String[][] not = {{"before", "beside", ";"}, {"item", "before", "beside", ";"},
            {"item", "before", "beside", "a", "x"}, {"item", "a", "b", "x", ";"}, {"item", "before", "beside", ";"},
            {"item", "before", "beside", ";"}, {"item", "before", "beside", "a", "b", "x"}};
        for (int s = 0; s < OPEN.length; s++) {
            String head = ABC + OPEN[s];
            for (String token : not[s]) {
                dueFault(head + token, 1, head.length());
                dueFault(head + "\n " + token + ";", 1, head.length() + 2);
                dueFault(padded(head, 699, token + spaces(3)), 1, 699);
            }
            dueFault(head + LONG_WORD, 1, head.length());
            noToken(head);
        }
    }

    private static void noToken(String head) {
        for (int sign = 0; sign < 256; sign++) {
            if (!isBlank(sign) && !isLetter(sign) && sign != ';') {
                dueFault(head + (char) sign + " b;", 1, head.length());
            }
        }
    }

    private static void theEnd() {
        Sentence.of(0, "the end: how many bytes there are; ");
        for (int s = 1; s < OPEN.length; s++) {
            String head = ABC + OPEN[s];
            dueFault(head.trim(), 1, head.length() - 1);
            dueFault(head, 1, head.length());
            dueFault(head + " \n ", 1, head.length() + 3);
            dueFault(padded(head, 699, ""), 1, 699);
            dueFault(padded(head, 700, ""), 1, 700);
        }
        dueFault(padded("", 696, "item"), 1, 700);
    }

    private static void moreThanSevenHundred() {
        Sentence.of(0, "700, if there are more and no FAULT is ahead: ");
        for (int size = 701; size <= 740; size++) {
            dueFault(spaces(size), 1, 700);
            dueFault(padded("item a;", size, ""), 1, 700);
            dueFault(padded("item a;?", size, ""), 1, 7);
        }
        for (String open : OPEN) {
            dueFault(padded(ABC + open, 701, ""), 1, 700);
            dueFault(padded(ABC + open, 699, "? "), 1, 699);
            dueFault(padded(ABC + open, 700, "?"), 1, 700);
            dueFault(padded(ABC + open, 700, "x b;"), 1, 700);
            dueFault(padded(ABC + open, 700, ";"), 1, 700);
        }
        dueFault(padded(EIGHT, 699, "item i;"), 3, 699);
        dueFault(padded(EIGHT, 700, "item i;"), 1, 700);
        dueFault(padded(ABC, 699, "x;"), 2, 699);
        dueFault(padded(ABC, 700, "x;"), 1, 700);
        dueFault(padded(ABC + "item ", 699, "a;"), 2, 699);
        dueFault(padded(ABC + "item ", 700, "a;"), 1, 700);
        dueFault(padded(ABC + "a before ", 699, "a;"), 2, 699);
        dueFault(padded(ABC + "a before ", 700, "a;"), 1, 700);
        dueFault(padded(ROWS + "c before a", 699, "; "), 4, 43);
        dueFault(padded(ROWS + "c before a", 700, "; "), 1, 700);
        dueFault(padded(ROWS, 689, "c before a;;"), 4, 689);
        dueFault(padded(ROWS, 690, "c before a;"), 1, 700);
    }

    private static void readWhole() {
        Sentence.of(0, "TOKENS that begin ahead of it are read whole); ");
        for (int n = 2; n <= 7; n++) {
            String name = LONG_WORD.substring(0, n);
            String shorter = LONG_WORD.substring(0, n - 1);
            for (int place = 701 - n; place <= 699; place++) {
                dueFault(padded("item " + name + ";item ", place, name + ";"), 2, place);
                dueFault(padded("item " + shorter + ";item ", place, name + ";"), 1, 700);
                dueFault(padded("item " + name + ";", place, name + ";"), 1, 700);
                dueFault(padded("item " + shorter + ";", place, name + ";"), 2, place);
            }
        }
        for (int place = 693; place <= 699; place++) {
            dueFault(padded("item a;item ", place, LONG_WORD), 1, place);
            dueFault(padded("item a;", place, LONG_WORD + ";"), 1, place);
        }
        for (int place = 695; place <= 699; place++) {
            dueFault(padded(ABC + "a ", place, "before b;"), 1, 700);
            dueFault(padded(ABC + "a ", place, "beside b;"), 1, 700);
            dueFault(padded(ABC + "a ", place, "besides b;"), 1, place);
            dueFault(padded(EIGHT, Math.max(place, 697), "item i;"), 3, Math.max(place, 697));
        }
        dueFault(padded("item aa;item a;aa before ", 699, "aa;"), 2, 699);
        dueFault(padded("item aa;item a;a before ", 699, "aa;"), 1, 700);
        for (int size : new int[] {700, 701, 739, 740}) {
            dueFault(Check.repeat("a", size), 1, 0);
            dueFault(spaces(699) + Check.repeat("a", size - 699), size < 707 ? 2 : 1, 699);
        }
        dueFault(padded("item a;item", 699, ";;"), 1, 699);
        dueFault(padded("item a", 699, ";;"), 1, 700);
    }

    private static void nameToldTwice() {
        Sentence.of(0, "2 a NAME told twice, ");
        dueFault("item a;item a;", 2, 12);
        dueFault("item a;item  a", 2, 13);
        dueFault("item abcdefg;item b;item abcdefg;", 2, 25);
        dueFault(EIGHT.substring(0, 49) + "item a", 2, 54);
    }

    private static void nameNotTold() {
        Sentence.of(0, "or not told, ");
        dueFault("a before b;", 2, 0);
        dueFault(" x", 2, 1);
        dueFault("item a;b before a;", 2, 7);
        dueFault("item a;a before b;", 2, 16);
        dueFault("item a;a beside b;item b;", 2, 16);
        dueFault("item a;aa before a;", 2, 7);
        dueFault("item aa;a before aa;", 2, 8);
        SpanFacts x = new SpanFacts();
        Check.due("told", Check.notes(x, "item a;item b;"), 2);
        Check.due("told in another text alone", Check.notes(x, "a before b;"), -1);
        Check.due("fault()", x.fault(), 2);
        Check.due("told in a text with a fault alone", Check.notes(x, "item c;?"), -8);
        Check.due("the first name", Check.notes(x, "item d;c before d;"), -8);
        Check.due("fault()", x.fault(), 2);
    }

    private static void secondIsFirst() {
        Sentence.of(0, "a second ITEM that is the first one, ");
        dueFault(ABC + "a before a;", 2, 30);
        dueFault(ABC + "c beside c", 2, 30);
        dueFault(ABC + "b before  b;", 2, 31);
    }

    private static void factWasTold() {
        Sentence.of(0, "or of two of whom a FACT was told (at the WORD); ");
        dueFault(ROWS + "b before a;", 2, 52);
        dueFault(ROWS + "c beside b", 2, 52);
        dueFault(ROWS + "a beside \n b;", 2, 54);
        dueRows(ROWS + "a before c;", 6);
        dueFault(ROWS + "a before c;c before a;", 2, 63);
    }

    private static void ninthItem() {
        Sentence.of(0, "3 a ninth ITEM (at 'item'); ");
        dueRows(EIGHT, 8);
        dueFault(EIGHT + "item i;", 3, 56);
        dueFault(EIGHT + " \n item i;", 3, 59);
        dueFault(EIGHT + "item", 3, 56);
        dueFault(EIGHT + "item item;", 3, 56);
        dueFault(EIGHT + "item a;", 3, 56);
        dueFault(EIGHT + "a before b;item i;", 3, 67);
        dueRows(EIGHT.substring(0, 49) + "a before b;item i;", 9);
    }

    private static void refutedFact() {
        Sentence.of(0, "4 a FACT that is REFUTED by those ahead (at its first WORD; ");
        dueFault(ROWS + "c before a;", 4, 43);
        dueFault(ROWS + " \nc beside a;", 4, 45);
        dueRows(ROWS + "a before c;", 6);
        dueFault(ABC + "c before a;a before b;b before c;", 4, 43);
        dueFault(ABC + "a beside c;a before b;b before c;", 4, 43);
        dueRows(ABC + "a before b;b beside c;c beside a;", 6);
        dueFault(ABC + "a before b;b beside c;c before a;", 4, 43);
        dueFault(ABC + "a beside b;b before c;c before a;", 4, 43);
    }

    private static void refutedBehindOthers() {
        Sentence.of(0, "behind all other FAULTS of its ROW and its ; )");
        dueFault(ROWS + "c before a", 1, 53);
        dueFault(ROWS + "c before a ", 1, 54);
        dueFault(ROWS + "c before a b;", 1, 54);
        dueFault(ROWS + "c before a?", 1, 53);
        dueFault(ROWS + "c before x;", 2, 52);
        dueFault(ROWS + "c before b;", 2, 52);
        dueFault(ROWS + "c before a;?", 4, 43);
        dueFault(ROWS + "c before a;x", 4, 43);
        dueFault(EIGHT + "a before b;b before c;c before a;item i;", 4, 78);
    }

    private static void newObject() {
        Sentence.of(1, "No ITEMS; an empty tape.");
        SpanFacts x = new SpanFacts();
        Check.dueFacts("new", x, 0, "");
        Check.due("now(1)", x.now(1), 0);
        Check.due("now(5)", x.now(5), 0);
        Check.due("end(1)", x.end(1), false);
        Check.due("grow()", x.grow(), 0);
        SpanFacts y = new SpanFacts();
        Check.due("notes()", y.notes(), 0);
        Check.due("drop(0)", y.drop(0), NONE);
        Check.due("another object's items are its own", y.now(0), 0);
    }

    private static void feedBytes() {
        Sentence.of(2, "Twenty bytes come behind the tape, of each number the highest first: how many it has; ");
        SpanFacts x = new SpanFacts();
        Check.due("feed", x.feed(0x6974656d, 0x20613b69, 0x74656d20, 0x623b6120, 0x6265666f), 20);
        Check.due("feed", x.feed(0x72652062, 0x3b202020, 0x20202020, 0x20202020, 0x20202020), 40);
        Check.due("notes()", x.notes(), 3);
        Check.dueFacts("notes()", x, 2, "0<1");
        for (int at = 0; at < 20; at++) {
            char[] signs = spaces(20).toCharArray();
            signs[at] = (char) 0xff;
            int[] n = Check.portion(new String(signs), 0);
            Check.due("feed", x.feed(n[0], n[1], n[2], n[3], n[4]), 20);
            Check.due("byte 255 at " + at, x.notes(), -1 - at);
        }
        x.feed(0x20202020, 0x20202020, 0x20202020, 0x20202020, 0x20202020);
        x.end(3);
        Check.due("behind what is there", x.feed(Integer.MIN_VALUE, -1, 0, 0, 0), 23);
        Check.due("notes()", x.notes(), -4);
    }

    private static void feedFull() {
        Sentence.of(2, "NONE, and none come, if it would have more than 740.");
        SpanFacts x = new SpanFacts();
        for (int i = 1; i <= 37; i++) {
            Check.due("feed", x.feed(0x20202020, 0x20202020, 0x20202020, 0x20202020, 0x20202020), 20 * i);
        }
        Check.due("feed at 740", x.feed(0x3b3b3b3b, 0, 0, 0, 0), NONE);
        Check.due("now(5)", x.now(5), 740);
        for (int n = 739; n >= 721; n--) {
            x.end(n);
            Check.due("feed at " + n, x.feed(0x3b3b3b3b, 0, 0, 0, 0), NONE);
            Check.due("now(5)", x.now(5), n);
        }
        x.end(720);
        Check.due("feed at 720", x.feed(0x20202020, 0x20202020, 0x20202020, 0x20202020, 0x20202020), 740);
        Check.due("none came ahead", x.notes(), -701);
        Check.due("feed", x.feed(0, 0, 0, 0, 0), 20);
        fullAtOddPlace();
    }

    private static void fullAtOddPlace() {
        SpanFacts x = new SpanFacts();
        Check.feed(x, spaces(719));
        Check.due("feed at 719", x.feed(0, 0, 0, 0, 0), 739);
        Check.due("feed at 739", x.feed(0, 0, 0, 0, 0), NONE);
        x.end(700);
        Check.due("the bytes ahead are as they were", x.notes(), 0);
    }

    private static void endCuts() {
        Sentence.of(3, "The tape has its first n bytes alone: true; ");
        SpanFacts x = new SpanFacts();
        Check.due("end(0)", x.end(0), true);
        Check.feed(x, "item a;item b;?");
        Check.due("end(15)", x.end(15), true);
        Check.due("now(5)", x.now(5), 15);
        Check.due("end(14)", x.end(14), true);
        Check.due("now(5)", x.now(5), 14);
        Check.due("notes()", x.notes(), 2);
        Check.feed(x, "item a;item b;?");
        Check.due("end(7)", x.end(7), true);
        Check.due("end(7)", x.end(7), true);
        x.feed(0x6974656d, 0x20633b20, 0x20202020, 0x20202020, 0x20202020);
        Check.due("what was cut is gone", x.notes(), 2);
        x.feed(0x6974656d, 0x20613b69, 0x74656d20, 0x61623b20, 0x20202020);
        Check.due("end(13)", x.end(13), true);
        Check.due("letters behind the cut are not read", x.notes(), -13);
        Check.feed(x, "?");
        Check.due("end(0)", x.end(0), true);
        Check.due("now(5)", x.now(5), 0);
        Check.due("notes()", x.notes(), 0);
        Check.feed(x, spaces(740));
        Check.due("end(740)", x.end(740), true);
        Check.due("now(5)", x.now(5), 740);
    }

    private static void endRefused() {
        Sentence.of(3, "false, if it has not so many, or n is below 0.");
        SpanFacts x = new SpanFacts();
        for (int n : new int[] {1, 20, 740, -1, Integer.MIN_VALUE, Integer.MAX_VALUE}) {
            Check.due("end(" + n + ") of none", x.end(n), false);
        }
        Check.feed(x, "item a;");
        for (int n : new int[] {8, 20, 740, 741, -1, -7, Integer.MIN_VALUE, Integer.MAX_VALUE}) {
            Check.due("end(" + n + ") of 7", x.end(n), false);
            Check.due("now(5)", x.now(5), 7);
        }
        Check.due("the tape stays", x.notes(), 1);
        Check.feed(x, spaces(740));
        Check.due("end(741)", x.end(741), false);
        Check.due("now(5)", x.now(5), 740);
    }

    private static void notesEmptyTheTape() {
        Sentence.of(4, "The tape (empty then, even with a FAULT) is NOTES: ");
        SpanFacts x = new SpanFacts();
        Check.due("notes()", Check.notes(x, "item a;"), 1);
        Check.due("the tape", x.now(5), 0);
        Check.due("end(1)", x.end(1), false);
        Check.due("a fault", Check.notes(x, "item a;?"), -8);
        Check.due("the tape", x.now(5), 0);
        Check.due("end(1)", x.end(1), false);
        Check.due("more than 700", Check.notes(x, spaces(740)), -701);
        Check.due("the tape", x.now(5), 0);
        Check.due("an empty one", x.notes(), 0);
        Check.due("no items are left", x.now(0), 0);
    }

    private static void notesCountRows() {
        Sentence.of(4, "how many ROWS; ");
        dueRows(" \n", 0);
        for (int n = 1; n <= 8; n++) {
            SpanFacts x = new SpanFacts();
            Check.due(n + " rows", Check.notes(x, EIGHT.substring(0, 7 * n)), n);
            Check.due("items", x.now(0), n);
        }
        for (int n = 0; n <= 28; n++) {
            SpanFacts x = new SpanFacts();
            Check.due(8 + n + " rows", Check.notes(x, EIGHT + allPairs().substring(0, 11 * n)), 8 + n);
            Check.due("facts", x.now(1), n);
        }
    }

    private static void notesWithFault() {
        Sentence.of(4, "-1 less the place of a FAULT: all stays.");
        SpanFacts x = Check.told(3, "0<1 2~1");
        x.image(1);
        x.test(0, 2, 0);
        x.forget(1);
        String[] texts = {"?", "item a;?", "item a;item a;", EIGHT + "item i;", ROWS + "c before a;", spaces(701)};
        int[] places = {0, 7, 12, 56, 43, 700};
        for (int i = 0; i < texts.length; i++) {
            Check.due("notes() " + i, Check.notes(x, texts[i]), -1 - places[i]);
            Check.dueFacts("notes() " + i, x, 3, "0<1");
            Check.due("acts", x.now(4), 6);
        }
        Check.due("undo()", x.undo(), 5);
        Check.dueFacts("undo()", x, 3, "0<1 2~1");
        Check.due("an act", x.forget(0), 1);
        Check.due("restore(0)", x.restore(0), false);
        Check.due("restore(1)", x.restore(1), true);
        Check.dueFacts("restore(1)", x, 3, "0<1 2~1");
    }

    private static void faultKinds() {
        Sentence.of(5, "The kind of the FAULT of the latest notes(); 0 without one and ahead of any.");
        SpanFacts x = new SpanFacts();
        Check.due("ahead of any", x.fault(), 0);
        Check.feed(x, "?");
        Check.due("ahead of any, with a tape", x.fault(), 0);
        x.end(0);
        String[] texts = {"?", "a", EIGHT + "item", ROWS + "c before a;"};
        for (int kind = 1; kind <= 4; kind++) {
            Check.notes(x, texts[kind - 1]);
            Check.due("fault()", x.fault(), kind);
            Check.due("fault() again", x.fault(), kind);
            Check.due("other calls", x.tell(0, 0, 0), NONE);
            x.feed(0, 0, 0, 0, 0);
            Check.due("fault() stays", x.fault(), kind);
            x.end(0);
            if (kind % 2 == 0) {
                x.notes();
                Check.due("without one", x.fault(), 0);
            }
        }
        Check.notes(x, "?");
        Check.notes(x, "item a;");
        Check.due("without one", x.fault(), 0);
    }
}
