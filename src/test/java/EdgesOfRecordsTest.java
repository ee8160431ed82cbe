/** Promises 5, 11 and 12 with the INDEXES and the DATE of 'Terms', sentence by sentence. */
public final class EdgesOfRecordsTest {
    private static final Kit KIT = new Kit("EdgesOfRecordsTest");
    private static final int NONE = CatalogQuery.NONE;
    private static final int[] NO_RECORD = {-1, 10, 256, Integer.MIN_VALUE, Integer.MAX_VALUE};

    public static void main(String[] args) {
        dropTellsWhetherThereWasOne();
        dropTakesFromFound();
        dropRefuses();
        recordTells();
        recordOfNone();
        recordRefuses();
        octetOfARecord();
        octetOfNone();
        octetRefuses();
        anyTexts();
        otherTexts();
        inTheOrderOfFields();
        charactersLeftOut();
        dates();
        KIT.end();
    }

    private static CatalogQuery tenLoaded() {
        String[] records = new String[10];
        for (int r = 0; r < 10; r++) {
            records[r] = Kit.marc("001r" + r, "24500$aw" + (9 - r), "26000$c200" + r);
        }
        return KIT.loaded(records);
    }

    private static int dropped(CatalogQuery x, int record) {
        return x.drop(record) ? 1 : 0;
    }

    private static void dropTellsWhetherThereWasOne() {
        KIT.sentence("A RECORD is gone (and no longer among those found): whether there was one.");
        CatalogQuery none = new CatalogQuery();
        CatalogQuery x = tenLoaded();
        for (int r = 0; r < 10; r++) {
            KIT.due("drop(" + r + ") of none", dropped(none, r), 0);
            KIT.due("drop(" + r + ")", dropped(x, r), 1);
            KIT.due("drop(" + r + ") again", dropped(x, r), 0);
            KIT.due("its FIELDS", x.record(r, 0), NONE);
            KIT.due("its first byte", x.octet(r, 0), NONE);
            KIT.due("words that are left", x.words(1), 9 - r);
            KIT.due("found by its id", Kit.search(x, "id=r" + r), 0);
        }
        KIT.due("the least number", Kit.load(x, Kit.marc("001new")), 0);
    }

    private static void dropTakesFromFound() {
        KIT.sentence("(and no longer among those found)");
        CatalogQuery x = tenLoaded();
        KIT.due("found", Kit.asked(x, "id=* sortby title"), "9 8 7 6 5 4 3 2 1 0");
        KIT.due("drop of the first", dropped(x, 9), 1);
        KIT.due("found", Kit.foundBy(x), "8 7 6 5 4 3 2 1 0");
        KIT.due("drop of the last", dropped(x, 0), 1);
        KIT.due("found", Kit.foundBy(x), "8 7 6 5 4 3 2 1");
        KIT.due("drop of one between", dropped(x, 5), 1);
        KIT.due("found", Kit.foundBy(x), "8 7 6 4 3 2 1");
        KIT.due("drop of none", dropped(x, 5), 0);
        KIT.due("found", Kit.foundBy(x), "8 7 6 4 3 2 1");
        KIT.due("another 0", Kit.load(x, Kit.marc("001new")), 0);
        KIT.due("is not among those found", Kit.foundBy(x), "8 7 6 4 3 2 1");
        KIT.due("drop of it", dropped(x, 0), 1);
        KIT.due("found", Kit.foundBy(x), "8 7 6 4 3 2 1");
        for (int r = 0; r < 10; r++) {
            x.drop(r);
        }
        KIT.due("none is left", Kit.foundBy(x), "");
    }

    private static void dropRefuses() {
        KIT.sentence("whether there was one. IllegalArgument: not 0 .. 9.");
        CatalogQuery x = tenLoaded();
        Kit.search(x, "id=* sortby title");
        for (int r : NO_RECORD) {
            KIT.refusedArgument("drop(" + r + ")", x, () -> x.drop(r));
            KIT.dueArgumentFault("drop(" + r + ") of none", () -> new CatalogQuery().drop(r));
        }
        KIT.due("drop(0)", dropped(x, 0), 1);
        KIT.due("drop(9)", dropped(x, 9), 1);
    }

    private static void recordTells() {
        KIT.sentence("what = 0 how many FIELDS it has, 1 its length, 2 its DATE (NONE without), 3"
                + " how many TEXTS of any");
        String least = Kit.marc("001");
        CatalogQuery x = KIT.loaded(least, Kit.marc("0010", "26000$c0000$a"),
                Kit.marc("001z", "26000$c9999", "245  " + "$a".repeat(160)));
        int[][] due = {{1, 39, NONE, 0}, {2, 24 + 25 + 2 + 11 + 1, 0, 2},
            {3, 24 + 37 + 2 + 9 + 323 + 1, 9999, 161}};
        for (int r = 0; r < due.length; r++) {
            for (int what = 0; what < 4; what++) {
                KIT.due("record(" + r + ", " + what + ")", x.record(r, what), due[r][what]);
            }
        }
        KIT.due("a length of 400", KIT.loaded(Kit.marc("001" + "y".repeat(361))).record(0, 1), 400);
        CatalogQuery ten = tenLoaded();
        KIT.due("record(0, 2)", ten.record(0, 2), 2000);
        KIT.due("record(9, 2)", ten.record(9, 2), 2009);
    }

    private static void recordOfNone() {
        KIT.sentence("NONE if there is no such RECORD.");
        CatalogQuery none = new CatalogQuery();
        CatalogQuery one = KIT.loaded(Kit.marc("001x", "26000$c1990"));
        CatalogQuery gone = tenLoaded();
        gone.drop(9);
        for (int what = 0; what < 4; what++) {
            KIT.due("record(0, " + what + ") of none", none.record(0, what), NONE);
            KIT.due("record(9, " + what + ") of none", none.record(9, what), NONE);
            KIT.due("record(1, " + what + ") of one", one.record(1, what), NONE);
            KIT.due("record(9, " + what + ") that is gone", gone.record(9, what), NONE);
        }
    }

    private static void recordRefuses() {
        KIT.sentence("IllegalArgument: not 0 .. 9, or another what.");
        CatalogQuery x = tenLoaded();
        CatalogQuery none = new CatalogQuery();
        for (int r : NO_RECORD) {
            KIT.refusedArgument("record(" + r + ", 0)", x, () -> x.record(r, 0));
            KIT.dueArgumentFault("record(" + r + ", 3) of none", () -> none.record(r, 3));
            KIT.dueArgumentFault("both wrong", () -> none.record(r, 4));
        }
        for (int what : new int[] {-1, 4, Integer.MIN_VALUE, Integer.MAX_VALUE}) {
            KIT.refusedArgument("record(0, " + what + ")", x, () -> x.record(0, what));
            KIT.dueArgumentFault("record(9, " + what + ")", () -> x.record(9, what));
            KIT.dueArgumentFault("record(0, " + what + ") of none", () -> none.record(0, what));
        }
    }

    private static void octetOfARecord() {
        KIT.sentence("Byte k of a RECORD, made of its FIELDS anew as told above");
        String[] records = {Kit.marc("001"), Kit.marcLed("azz  ", "001 ~", "000", "01099$z9$0~ "),
            Kit.marcLed("paa a", "001" + "y".repeat(361))};
        CatalogQuery x = KIT.loaded(records);
        for (int r = 0; r < records.length; r++) {
            int last = records[r].length() - 1;
            KIT.due("byte 0", x.octet(r, 0), '0');
            KIT.due("byte 5", x.octet(r, 5), records[r].charAt(5));
            KIT.due("the last byte", x.octet(r, last), 29);
            KIT.due("the one before", x.octet(r, last - 1), 30);
            KIT.due("none behind", x.octet(r, last + 1), NONE);
            if (last < 100) {
                KIT.due("all of them", Kit.octets(x, r), records[r]);
            }
        }
        x.cut(0);
        x.feed(16, -1, -1, -1, -1);
        KIT.due("other BYTES", x.octet(2, 0), '0');
        CatalogQuery ten = tenLoaded();
        KIT.due("of RECORD 9", Kit.octets(ten, 9), Kit.marc("001r9", "24500$aw0", "26000$c2009"));
    }

    private static void octetOfNone() {
        KIT.sentence("as told above; NONE if there is none.");
        CatalogQuery x = KIT.loaded(Kit.marc("001"));
        for (int k : new int[] {-1, 39, 40, 400, Integer.MIN_VALUE, Integer.MAX_VALUE}) {
            KIT.due("octet(0, " + k + ")", x.octet(0, k), NONE);
        }
        for (int k : new int[] {-1, 0, Integer.MIN_VALUE, Integer.MAX_VALUE}) {
            KIT.due("octet(1, " + k + ")", x.octet(1, k), NONE);
            KIT.due("octet(9, " + k + ")", x.octet(9, k), NONE);
        }
        x.drop(0);
        KIT.due("octet(0, 0) that is gone", x.octet(0, 0), NONE);
    }

    private static void octetRefuses() {
        KIT.sentence("NONE if there is none. IllegalArgument: not 0 .. 9.");
        CatalogQuery x = tenLoaded();
        for (int r : NO_RECORD) {
            KIT.refusedArgument("octet(" + r + ", 0)", x, () -> x.octet(r, 0));
            KIT.dueArgumentFault("octet(" + r + ", -1)", () -> x.octet(r, -1));
            KIT.dueArgumentFault("octet(" + r + ") of none", () -> new CatalogQuery().octet(r, 0));
        }
    }

    private static void dueTexts(String fields, int index, String due) {
        String[] all = ("001ID|" + fields).split("\\|");
        CatalogQuery x = KIT.loaded(Kit.marc(all));
        KIT.due("INDEX " + index + " of " + fields, Kit.lexicon(x, index), due);
    }

    private static void anyTexts() {
        KIT.sentence("0 any: SUBFIELDS of all FIELDS with some");
        dueTexts("009a", 0, "");
        dueTexts("00000", 0, "");
        dueTexts("01000$aa", 0, "a");
        dueTexts("99999$9nine$zz", 0, "nine z");
        dueTexts("00500|24500$at$bu$cv|10000$aw|26000$c1990|65000$as|70000$ax", 0,
                "1990 s t u v w x");
        dueTexts("24509$ashort$bb", 0, "b short");
        KIT.due("none has TEXTS", KIT.loaded(Kit.marc("001x", "005y")).record(0, 3), 0);
        KIT.due("an empty one is a TEXT", KIT.loaded(Kit.marc("001x", "50000$a")).record(0, 3), 1);
    }

    private static void otherTexts() {
        KIT.sentence("1 title: a, b of 245");
        dueTexts("24400$a1$b2|24500$aa$bb$cc|24600$a4$b5", 1, "a b");
        dueTexts("24500$0x$zy$9z", 1, "");
        KIT.sentence("2 author: a of 100, 700");
        dueTexts("09900$a1|10000$aa$b2|10100$a3|69900$a4|70000$ab$c5|70100$a6", 2, "a b");
        KIT.sentence("3 subject: a of 650");
        dueTexts("64900$a1|65000$aa$b2|65100$a3", 3, "a");
        KIT.sentence("4 date: c of 260");
        dueTexts("25900$c1|26000$aa$bb$cc$dd|26100$c2", 4, "c");
        KIT.sentence("5 id: the text of 001.");
        dueTexts("000a|00200|01000$ab", 5, "id");
        KIT.due("an empty text", Kit.lexicon(KIT.loaded(Kit.marc("001")), 5), "");
    }

    /** The first TEXT shows in what sortby does, the end of a TEXT in what a phrase finds. */
    private static void inTheOrderOfFields() {
        KIT.sentence("Those of a RECORD come in the order of its FIELDS, each as a TEXT");
        CatalogQuery x = KIT.loaded(Kit.marc("001b", "70000$ab x$ac", "10000$aa"),
                Kit.marc("001a", "10000$ac", "70000$aa"), Kit.marc("001d", "10000$ex$aa$ad"),
                Kit.marc("001c", "24500$bz$ay", "10000$aa z"));
        KIT.due("by the first author", Kit.asked(x, "id=* sortby author"), "2 3 0 1");
        KIT.due("by the first of any", Kit.asked(x, "id=* sortby any"), "0 1 2 3");
        KIT.due("in one TEXT", Kit.asked(x, "author = \"b x\""), "0");
        KIT.due("in two SUBFIELDS", Kit.asked(x, "author = \"x c\""), "");
        KIT.due("in two FIELDS", Kit.asked(x, "author = \"c a\""), "");
        KIT.due("in two TEXTS of any", Kit.asked(x, "any = \"x a\""), "");
        KIT.due("one TEXT whole", Kit.asked(x, "author == a"), "0 1 2");
        KIT.due("all in several TEXTS", Kit.asked(x, "author all \"a c\""), "0 1");
        KIT.due("TEXTS of any", x.record(0, 3), 3);
        KIT.due("TEXTS of any", x.record(2, 3), 3);
    }

    private static void charactersLeftOut() {
        KIT.sentence("of title's in a 245 whose second INDICATOR is a digit that many characters"
                + " are left out at the front of each a.");
        String text = "abcdefghij";
        for (int n = 0; n <= 9; n++) {
            dueTexts("245 " + n + "$a" + text, 1, text.substring(n));
            dueTexts("245" + n + " $a" + text, 1, text);
        }
        dueTexts("245  $a" + text, 1, text);
        dueTexts("24594$aThe fox$bThe tail$aThe end", 1, "end fox tail the");
        dueTexts("24593$aThe fox$bThe tail", 1, "fox tail the");
        dueTexts("24594$aThe fox$aThe end", 1, "end fox");
        dueTexts("24594$bA tail$aThe end$aThe fox", 1, "a end fox tail");
        dueTexts("24509$a", 1, "");
        dueTexts("24501$a", 1, "");
        dueTexts("24501$aa", 1, "");
        dueTexts("24502$aa$bb", 1, "b");
        dueTexts("24509$a12345678", 1, "");
        dueTexts("24509$a123456789", 1, "");
        dueTexts("24509$a123456789z", 1, "z");
        dueTexts("24509$ashort|24600$anext", 1, "");
        dueTexts("24502$aabc|245  $axyz|24500$auvw", 1, "c uvw xyz");
        dueTexts("24509$ashort", 0, "short");
        dueTexts("10009$ashort", 2, "short");
        dueTexts("65009$ashort", 3, "short");
        dueTexts("26009$c1234", 4, "1234");
    }

    private static void dueDate(String fields, int due) {
        String[] all = ("0011111|" + fields).split("\\|");
        KIT.due("DATE of " + fields, KIT.loaded(Kit.marc(all)).record(0, 2), due);
    }

    private static void dates() {
        KIT.sentence("The DATE of a RECORD is the number of the first four digits that stand"
                + " together (in five, the first four) in its first TEXT of date that has such;"
                + " else none.");
        dueDate("26000$c", NONE);
        dueDate("26000$c1", NONE);
        dueDate("26000$c123", NONE);
        dueDate("26000$c1234", 1234);
        dueDate("26000$c12345", 1234);
        dueDate("26000$c12345678", 1234);
        dueDate("26000$c0000", 0);
        dueDate("26000$c0001", 1);
        dueDate("26000$c9999", 9999);
        dueDate("26000$c/0:9/0:90/0909:", 909);
        dueDate("26000$c123 4567", 4567);
        dueDate("26000$c123x4567", 4567);
        dueDate("26000$c19 87", NONE);
        dueDate("26000$c1234 5678", 1234);
        dueDate("26000$cx1234", 1234);
        dueDate("26000$c12$c34", NONE);
        dueDate("26000$c123$c4$c5678$c9999", 5678);
        dueDate("26000$c$c1990", 1990);
        dueDate("26000$cx|26000$a1980$c1990|26000$c2000", 1990);
        dueDate("26000$a1990", NONE);
        dueDate("24500$a1990$c1990|26100$c1990|25900$c1990", NONE);
        dueDate("26004$c12345", 1234);
        KIT.due("no FIELD of date", KIT.loaded(Kit.marc("0011990")).record(0, 2), NONE);
    }
}
