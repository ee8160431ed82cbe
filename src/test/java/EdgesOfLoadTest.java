/** Promise 4 and the RECORD of 'Terms', sentence by sentence: what load takes and refuses. */
public final class EdgesOfLoadTest {
    private static final Kit KIT = new Kit("EdgesOfLoadTest");
    private static final char RECORD_END = 29;
    private static final char FIELD_END = 30;
    private static final int FORM = CatalogQuery.FORM;
    private static final int LENGTH = CatalogQuery.LENGTH;
    private static final int FIELD = CatalogQuery.FIELD;

    /** The ENTRIES at 24, 36, 48, their end at 60, the FIELDS at 61, 64, 66, 29 at 74. */
    private static final String GOOD = Kit.marc("001ab", "005z", "24504$aThe");
    private static final int[] ENTRY = {24, 36, 48};
    private static final int[] FIELD_AT = {61, 64, 66};
    private static final int END_AT = 74;

    public static void main(String[] args) {
        leaderBytes();
        leaderLacks();
        lengthOfRecord();
        oneOrMoreEntries();
        digitsOfEntries();
        base();
        partsOfAnEntry();
        fieldsOneBehindTheOther();
        tags();
        starts();
        textFields();
        indicators();
        subfields();
        texts();
        fieldBytes();
        fieldLengths();
        end();
        order();
        twice();
        full();
        numbers();
        bytesStay();
        KIT.end();
    }

    private static void due(String what, String bytes, int answer, int place) {
        CatalogQuery x = new CatalogQuery();
        KIT.due("load() of " + what, Kit.load(x, bytes), answer);
        KIT.due("place() of " + what, x.place(), place);
        KIT.due("RECORD of " + what, x.record(0, 1), answer == 0 ? bytes.length() : -1);
    }

    private static void taken(String what, String bytes) {
        due(what, bytes, 0, CatalogQuery.NONE);
    }

    /** Each byte just outside of what can be there, and those at the ends of what can. */
    private static void leaderByte(int p, String can, String cannot) {
        for (char c : can.toCharArray()) {
            CatalogQuery x = new CatalogQuery();
            boolean isForm = Kit.load(x, Kit.put(GOOD, p, c)) == FORM;
            KIT.due("LEADER's byte " + p + " as " + (int) c + " is FORM", isForm ? 1 : 0, 0);
        }
        for (char c : (cannot + "\0\u001e\u007f\u00ff").toCharArray()) {
            due("LEADER's byte " + p + " as " + (int) c, Kit.put(GOOD, p, c), FORM, p);
        }
    }

    private static void leaderBytes() {
        taken("the good one", GOOD);
        KIT.sentence("0 .. 4 digits, the RECORD's length");
        for (int p = 0; p <= 4; p++) {
            leaderByte(p, "09", "/: a");
        }
        KIT.sentence("5 one of a c d n p");
        leaderByte(5, "acdnp", "`bemoq{ACDNP ");
        KIT.sentence("6, 7 letters a .. z");
        leaderByte(6, "az", "`{AZ 0");
        leaderByte(7, "az", "`{AZ 0");
        KIT.sentence("8 a blank");
        leaderByte(8, " ", "!a0");
        KIT.sentence("9 a blank or a");
        leaderByte(9, " a", "!`bA0");
        KIT.sentence("10, 11 2");
        leaderByte(10, "2", "13 ");
        leaderByte(11, "2", "13 ");
        KIT.sentence("12 .. 16 digits, the BASE");
        for (int p = 12; p <= 16; p++) {
            leaderByte(p, "09", "/: a");
        }
        KIT.sentence("17 .. 19 blanks");
        for (int p = 17; p <= 19; p++) {
            leaderByte(p, " ", "!a0");
        }
        KIT.sentence("20 .. 23 4500");
        for (int p = 20; p <= 23; p++) {
            char can = "4500".charAt(p - 20);
            leaderByte(p, String.valueOf(can), (char) (can - 1) + "" + (char) (can + 1) + " ");
        }
    }

    private static void leaderLacks() {
        KIT.sentence("FORM, at the first of the LEADER's bytes that cannot be there (how many BYTES"
                + " there are, if one lacks)");
        for (int n = 0; n < 24; n++) {
            due(n + " BYTES", GOOD.substring(0, n), FORM, n);
        }
        due("24 BYTES", GOOD.substring(0, 24), LENGTH, 0);
        due("one that cannot be there before one that lacks",
                Kit.put(GOOD, 22, "x").substring(0, 23), FORM, 22);
        due("two that cannot be there", Kit.put(Kit.put(GOOD, 23, "x"), 0, "x"), FORM, 0);
        due("one before the length is wrong", Kit.put(GOOD, 0, "9999x"), FORM, 4);
    }

    private static void lengthOfRecord() {
        KIT.sentence("LENGTH, at 0, if the RECORD's length is not how many BYTES there are");
        int length = GOOD.length();
        for (int n : new int[] {0, 1, length - 1, length + 1, 400, 99999}) {
            due("length " + n, String.format("%05d", n) + GOOD.substring(5), LENGTH, 0);
        }
        due("one byte lacks", GOOD.substring(0, length - 1), LENGTH, 0);
        due("one byte more", GOOD + RECORD_END, LENGTH, 0);
        due("before the ENTRIES", Kit.put(GOOD, 24, "x") + "x", LENGTH, 0);
        taken("400 BYTES", Kit.marc("001" + "y".repeat(361)));
        due("400 BYTES of length 399", Kit.put(Kit.marc("001" + "y".repeat(361)), 0, "00399"),
                LENGTH, 0);
    }

    /** 26 + 13 n: more than 28 ENTRIES do not go into 400 BYTES. */
    private static void oneOrMoreEntries() {
        KIT.sentence("Then one or more ENTRIES of 12 digits each");
        due("no ENTRY", Kit.sized(Kit.put(GOOD.substring(0, 24), 12, "00025") + FIELD_END
                + RECORD_END), FORM, 24);
        taken("one ENTRY", Kit.marc("001"));
        String[] most = new String[28];
        for (int i = 0; i < most.length; i++) {
            most[i] = i == 0 ? "0010123456789" : "000";
        }
        String bytes = Kit.marc(most);
        KIT.due("its length", bytes.length(), 400);
        CatalogQuery x = new CatalogQuery();
        KIT.due("load() of 28 ENTRIES", Kit.load(x, bytes), 0);
        KIT.due("its FIELDS", x.record(0, 0), 28);
        KIT.due("its bytes", Kit.octets(x, 0), bytes);
    }

    private static void digitsOfEntries() {
        KIT.sentence("FORM, at the first that is no digit in the ENTRIES (likewise; 30 is one only"
                + " behind an ENTRY)");
        for (int p = 24; p <= 60; p++) {
            for (char c : "/: \u001d\u001f\0\u00ff".toCharArray()) {
                due((int) c + " at " + p, Kit.put(GOOD, p, c), FORM, p);
            }
            boolean behindEntry = p == 36 || p == 48 || p == 60;
            if (!behindEntry) {
                due("30 at " + p, Kit.put(GOOD, p, FIELD_END), FORM, p);
            }
        }
        for (int n = 24; n <= 60; n++) {
            due("the ENTRIES lack from " + n + " on", Kit.sized(GOOD.substring(0, n)), FORM, n);
        }
        due("the last digit of 400", Kit.sized(GOOD.substring(0, 24) + "0".repeat(376)), FORM, 400);
        due("a digit for 30", Kit.put(GOOD, 60, "0"), FORM, 61);
        due("two that are none", Kit.put(Kit.put(GOOD, 47, "x"), 25, "x"), FORM, 25);
        due("before the BASE is wrong", Kit.put(Kit.put(GOOD, 12, "00000"), 59, "x"), FORM, 59);
    }

    private static void base() {
        KIT.sentence("LENGTH, at 12, if the BASE is not that");
        for (String base : new String[] {"00000", "00060", "00062", "00024", "99999"}) {
            due("BASE " + base, Kit.put(GOOD, 12, base), LENGTH, 12);
        }
        due("30 behind the first ENTRY", Kit.put(GOOD, 36, FIELD_END), LENGTH, 12);
        due("30 behind the second ENTRY", Kit.put(GOOD, 48, FIELD_END), LENGTH, 12);
        due("before the TAGS are wrong", Kit.put(Kit.put(GOOD, 12, "00060"), 24, "002"), LENGTH,
                12);
        KIT.sentence("The BASE is the place behind that.");
        taken("BASE 61", Kit.put(GOOD, 12, "00061"));
    }

    /** Every digit of a length and of a start counts, the first ones too. */
    private static void partsOfAnEntry() {
        KIT.sentence("a TAG of three, a length of four, a start of five; then 30.");
        taken("length 0280", Kit.marc("001x", "245  $a" + "y".repeat(275)));
        String far = Kit.marc("001" + "y".repeat(279), "005z");
        taken("start 00280", far);
        due("length 9999", Kit.put(far, ENTRY[1] + 3, "9999"), LENGTH, ENTRY[1] + 3);
        due("length 1002", Kit.put(far, ENTRY[1] + 3, "1002"), LENGTH, ENTRY[1] + 3);
        due("length 2000", Kit.put(far, ENTRY[1] + 3, "2000"), LENGTH, ENTRY[1] + 3);
        due("start 99999", Kit.put(far, ENTRY[1] + 7, "99999"), LENGTH, ENTRY[1] + 7);
        due("start 10280", Kit.put(far, ENTRY[1] + 7, "10280"), LENGTH, ENTRY[1] + 7);
        due("start 28000", Kit.put(far, ENTRY[1] + 7, "28000"), LENGTH, ENTRY[1] + 7);
        due("TAG 101", Kit.put(far, ENTRY[0], "101"), FIELD, ENTRY[0]);
        due("an ENTRY of eleven", Kit.sized(far.substring(0, 47) + far.substring(48)), FORM, 47);
        due("an ENTRY of thirteen", Kit.sized(far.substring(0, 48) + "0" + far.substring(48)),
                FORM, 49);
    }

    private static void fieldsOneBehindTheOther() {
        KIT.sentence("FIELDS lie there one behind the other, in the order of their ENTRIES, each at"
                + " BASE and its start, as long as its length; behind the last one 29, the end.");
        String bytes = Kit.marc("001a", "005bb", "009ccc");
        String second = bytes.substring(ENTRY[1], ENTRY[2]);
        String third = bytes.substring(ENTRY[2], 60);
        taken("in their order", bytes);
        due("in another order", Kit.put(Kit.put(bytes, ENTRY[1], third), ENTRY[2], second), LENGTH,
                ENTRY[1] + 7);
        due("the same one twice", Kit.put(bytes, ENTRY[2], second), LENGTH, ENTRY[2] + 7);
        due("a byte between", Kit.sized(bytes.substring(0, 63) + "x" + bytes.substring(63)), LENGTH,
                ENTRY[1] + 3);
        due("a FIELD between", Kit.sized(bytes.substring(0, 63) + FIELD_END
                + bytes.substring(63)), LENGTH, ENTRY[1] + 3);
        due("a FIELD behind", Kit.sized(bytes.substring(0, 70) + FIELD_END + RECORD_END), FORM, 70);
        due("a FIELD less", Kit.sized(bytes.substring(0, 66) + RECORD_END), FORM, 66);
        taken("FIELDS of 30 alone", Kit.marc("001", "005", "009"));
    }

    private static void tags() {
        KIT.sentence("FIELD, at it, if the first TAG is not 001, or another one is");
        for (String tag : new String[] {"000", "002", "010", "100", "011", "101", "999"}) {
            due("first TAG " + tag, Kit.put(GOOD, ENTRY[0], tag), FIELD, ENTRY[0]);
        }
        due("second TAG 001", Kit.put(GOOD, ENTRY[1], "001"), FIELD, ENTRY[1]);
        due("last TAG 001", Kit.put(GOOD, ENTRY[2], "001"), FIELD, ENTRY[2]);
        due("both", Kit.put(Kit.put(GOOD, ENTRY[1], "001"), ENTRY[0], "005"), FIELD, ENTRY[0]);
        due("before its start", Kit.put(GOOD, ENTRY[1], "001000299999"), FIELD, ENTRY[1]);
        taken("second TAG 000", Kit.put(GOOD, ENTRY[1], "000"));
        taken("second TAG 002", Kit.put(GOOD, ENTRY[1], "002"));
        taken("the same TAG twice", Kit.marc("001x", "005y", "005y"));
    }

    private static void starts() {
        KIT.sentence("LENGTH, at its start, if that is not where the one before ends");
        due("first start 1", Kit.put(GOOD, ENTRY[0] + 7, "00001"), LENGTH, ENTRY[0] + 7);
        due("first start 99999", Kit.put(GOOD, ENTRY[0] + 7, "99999"), LENGTH, ENTRY[0] + 7);
        for (String start : new String[] {"00000", "00002", "00004", "99999"}) {
            due("second start " + start, Kit.put(GOOD, ENTRY[1] + 7, start), LENGTH, ENTRY[1] + 7);
        }
        for (String start : new String[] {"00004", "00006", "00066"}) {
            due("last start " + start, Kit.put(GOOD, ENTRY[2] + 7, start), LENGTH, ENTRY[2] + 7);
        }
        due("before its bytes", Kit.put(Kit.put(GOOD, ENTRY[1] + 7, "00002"), FIELD_AT[1], "\0"),
                LENGTH, ENTRY[1] + 7);
    }

    private static String withField(String field) {
        return Kit.marc("001ab", field);
    }

    /** The second FIELD of withField begins at 52. */
    private static void textFields() {
        KIT.sentence("A FIELD with a TAG below 010 is text and 30");
        taken("009 of text", withField("009ab"));
        taken("009 of nothing", withField("009"));
        taken("000 of text", withField("000ab"));
        due("009 with a SUBFIELD", withField("00900$ab"), FORM, 54);
        due("010 of text", withField("010ab"), FORM, 52);
        due("010 of nothing", withField("010"), FORM, 52);
        taken("010 with a SUBFIELD", withField("01000$ab"));
        taken("999 with a SUBFIELD", withField("99900$ab"));
    }

    private static void indicators() {
        KIT.sentence("another one two INDICATORS (blank or digit)");
        for (String c : new String[] {" ", "0", "9"}) {
            taken("first INDICATOR " + c, withField("245" + c + "0$ab"));
            taken("second INDICATOR " + c, withField("2450" + c + "$ab"));
        }
        for (String c : new String[] {"!", "/", ":", "a", "\u001e", "$", "\u001d", "\u00ff"}) {
            due("first INDICATOR " + (int) c.charAt(0), withField("245" + c + "0$ab"), FORM, 52);
            due("second INDICATOR " + (int) c.charAt(0), withField("2450" + c + "$ab"), FORM, 53);
        }
        due("no INDICATOR", withField("245$ab"), FORM, 52);
        due("one INDICATOR", withField("2450$ab"), FORM, 53);
        due("three INDICATORS", withField("245000$ab"), FORM, 54);
    }

    private static void subfields() {
        KIT.sentence("one or more SUBFIELDS (31, a CODE a .. z 0 .. 9, text), and 30.");
        due("no SUBFIELD", withField("24500"), FORM, 54);
        due("text for a SUBFIELD", withField("24500ab"), FORM, 54);
        taken("one SUBFIELD", withField("24500$a"));
        taken("as many as go into 400", withField("24500" + "$a".repeat(172)));
        for (char code : "az09".toCharArray()) {
            taken("CODE " + code, withField("24500$" + code));
            taken("second CODE " + code, withField("24500$a$" + code + "x"));
        }
        for (char code : "`{/:AZ \u001d\u001f\u00ff".toCharArray()) {
            due("CODE " + (int) code, withField("24500$" + code + "x"), FORM, 55);
            due("second CODE " + (int) code, withField("24500$ab$" + code), FORM, 58);
        }
        due("no CODE", withField("24500$"), FORM, 55);
        due("no second CODE", withField("24500$a$"), FORM, 57);
        due("31 twice", withField("24500$$a"), FORM, 55);
    }

    private static void texts() {
        KIT.sentence("Text is characters 32 .. 126, any many.");
        for (String text : new String[] {"", " ", "~", " ~", "\"#%&'()*+"}) {
            taken("001 [" + text + "]", Kit.marc("001" + text));
            taken("005 [" + text + "]", Kit.marc("001x", "005" + text));
            taken("SUBFIELD [" + text + "]", Kit.marc("001x", "24500$a" + text + "$b"));
        }
        for (char c : "\0\u001c\u001d\u007f\u0080\u00ff".toCharArray()) {
            due((int) c + " in 001", Kit.marc("001a" + c), FORM, 38);
            due((int) c + " in a SUBFIELD", withField("24500$ab" + c + "c"), FORM, 57);
        }
        due("31 in 001", Kit.marc("001a$"), FORM, 38);
        taken("001 as long as can be", Kit.marc("001" + "~".repeat(361)));
        taken("a SUBFIELD as long as can be", Kit.marc("001", "24500$a" + " ".repeat(344)));
    }

    private static void fieldBytes() {
        KIT.sentence("FORM, at the first byte that cannot be there (or lacks), up to its 30");
        for (int p = 61; p < END_AT; p++) {
            due("7 at " + p, Kit.put(GOOD, p, (char) 7), FORM, p);
        }
        for (int n = 61; n < END_AT; n++) {
            due("the FIELDS lack from " + n + " on", Kit.sized(GOOD.substring(0, n)), FORM, n);
        }
        due("no 30 in 400 BYTES", Kit.sized(Kit.marc("001" + "y".repeat(361)).substring(0, 398)
                + "yy"), FORM, 400);
        due("two that cannot be there", Kit.put(Kit.put(GOOD, 68, "x"), 66, "x"), FORM, 66);
        due("before its length", Kit.put(Kit.put(GOOD, 68, "x"), ENTRY[2] + 3, "0000"), FORM, 68);
        due("behind the 30 it is the next FIELD's", Kit.put(Kit.put(GOOD, ENTRY[1] + 3, "0009"),
                66, "x"), LENGTH, ENTRY[1] + 3);
    }

    private static void fieldLengths() {
        KIT.sentence("LENGTH, at its length, if that is not how long it is");
        int[] due = {3, 2, 8};
        for (int e = 0; e < 3; e++) {
            for (int n : new int[] {0, 1, due[e] - 1, due[e] + 1, 9999}) {
                int at = ENTRY[e] + 3;
                if (n != due[e]) {
                    due("length " + n + " of FIELD " + e, Kit.put(GOOD, at, String.format("%04d",
                            n)), LENGTH, at);
                }
            }
            taken("length " + due[e] + " of FIELD " + e, Kit.put(GOOD, ENTRY[e] + 3, "000"
                    + due[e]));
        }
        due("30 too soon", Kit.put(GOOD, 71, FIELD_END), LENGTH, ENTRY[2] + 3);
        due("before the next FIELD", Kit.put(Kit.put(GOOD, ENTRY[0] + 3, "0009"), ENTRY[1], "001"),
                LENGTH, ENTRY[0] + 3);
    }

    private static void end() {
        KIT.sentence("then FORM, where 29 should be (or behind it)");
        for (char c : "\u001c\u001e x\0\u00ff".toCharArray()) {
            due((int) c + " for 29", Kit.put(GOOD, END_AT, c), FORM, END_AT);
        }
        due("29 lacks", Kit.sized(GOOD.substring(0, END_AT)), FORM, END_AT);
        due("one byte behind", Kit.sized(GOOD + "x"), FORM, END_AT + 1);
        due("29 twice", Kit.sized(GOOD + RECORD_END), FORM, END_AT + 1);
        due("a RECORD behind", Kit.sized(GOOD + GOOD), FORM, END_AT + 1);
        String longest = Kit.marc("001" + "y".repeat(360)) + RECORD_END;
        due("the last of 400 BYTES behind it", Kit.sized(longest), FORM, 399);
        due("the last of 400 BYTES for it", Kit.put(Kit.marc("001" + "y".repeat(361)), 399, "x"),
                FORM, 399);
    }

    /** Every FAULT at once; then the first of them is mended, and the next one shows. */
    private static void order() {
        KIT.sentence("FAULTS, the first in this order");
        String bytes = GOOD;
        bytes = Kit.put(bytes, END_AT, "x");
        bytes = Kit.put(bytes, ENTRY[2], "245000900007");
        bytes = Kit.put(bytes, 69, "A");
        String third = bytes;
        bytes = Kit.put(bytes, ENTRY[1], "001000900007");
        bytes = Kit.put(bytes, FIELD_AT[1], "\0");
        String second = bytes;
        bytes = Kit.put(bytes, 12, "00060");
        String wrongBase = bytes;
        bytes = Kit.put(bytes, 59, "x");
        String wrongEntry = bytes;
        bytes = Kit.put(bytes, 0, "00000");
        String wrongLength = bytes;
        due("all, the LEADER first", Kit.put(bytes, 23, "x"), FORM, 23);
        due("its length", wrongLength, LENGTH, 0);
        due("the ENTRIES", wrongEntry, FORM, 59);
        due("the BASE", wrongBase, LENGTH, 12);
        due("second TAG", second, FIELD, ENTRY[1]);
        second = Kit.put(second, ENTRY[1], "005");
        due("second start", second, LENGTH, ENTRY[1] + 7);
        second = Kit.put(second, ENTRY[1] + 7, "00003");
        due("second FIELD", second, FORM, FIELD_AT[1]);
        second = Kit.put(second, FIELD_AT[1], "z");
        due("second length", second, LENGTH, ENTRY[1] + 3);
        due("third start", third, LENGTH, ENTRY[2] + 7);
        third = Kit.put(third, ENTRY[2] + 7, "00005");
        due("third FIELD", third, FORM, 69);
        third = Kit.put(third, 69, "a");
        due("third length", third, LENGTH, ENTRY[2] + 3);
        third = Kit.put(third, ENTRY[2] + 3, "0008");
        due("the end", third, FORM, END_AT);
        taken("none is left", Kit.put(third, END_AT, RECORD_END));
    }

    private static void twice() {
        KIT.sentence("TWICE, at the first byte of FIELD 001, if another RECORD has the same text in"
                + " it");
        CatalogQuery x = new CatalogQuery();
        String[] different = {"", " ", "ab", "a", "abc", "AB", "ab ", " ab", "b"};
        for (int r = 0; r < different.length; r++) {
            KIT.due("load() of [" + different[r] + "]", Kit.load(x, Kit.marc("001"
                    + different[r])), r);
        }
        for (String same : different) {
            KIT.due("[" + same + "] again", Kit.load(x, Kit.marc("001" + same, "005other")), -8);
            KIT.due("its place", x.place(), 49);
            KIT.due("no RECORD came", x.record(9, 0), CatalogQuery.NONE);
        }
        KIT.due("one ENTRY", Kit.load(x, Kit.marc("001ab")), CatalogQuery.TWICE);
        KIT.due("its place", x.place(), 37);
        KIT.due("drop(2)", x.drop(2) ? 1 : 0, 1);
        KIT.due("the text is free again", x.load(), 2);
        KIT.due("and taken again", x.load(), CatalogQuery.TWICE);
        KIT.due("a FAULT before", Kit.load(x, Kit.put(Kit.marc("001ab"), 40, "x")), FORM);
        KIT.due("the text of another FIELD", Kit.load(x, Kit.marc("001q", "005ab")), 9);
    }

    private static void full() {
        KIT.sentence("FULL, at 0: there are 10 RECORDS.");
        CatalogQuery x = new CatalogQuery();
        for (int r = 0; r < 10; r++) {
            KIT.due("load() with " + r, Kit.load(x, Kit.marc("001r" + r)), r);
        }
        KIT.due("load() with 10", Kit.load(x, Kit.marc("001new")), CatalogQuery.FULL);
        KIT.due("its place", x.place(), 0);
        KIT.due("load() again", x.load(), CatalogQuery.FULL);
        KIT.due("TWICE comes before", Kit.load(x, Kit.marc("001r9")), CatalogQuery.TWICE);
        KIT.due("its place", x.place(), 37);
        KIT.due("another FAULT comes before", Kit.load(x, Kit.marc("002new")), FIELD);
        KIT.due("its place", x.place(), 24);
        KIT.due("RECORDS are the same", x.record(9, 1), Kit.marc("001r9").length());
        KIT.due("drop(9)", x.drop(9) ? 1 : 0, 1);
        KIT.due("load() with 9", Kit.load(x, Kit.marc("001new")), 9);
        KIT.due("place of none", x.place(), CatalogQuery.NONE);
    }

    private static void numbers() {
        KIT.sentence("BYTES are a RECORD: its number, the least that none has; or a FAULT.");
        CatalogQuery x = new CatalogQuery();
        for (int r = 0; r < 10; r++) {
            KIT.due("load()", Kit.load(x, Kit.marc("001r" + r)), r);
        }
        for (int r = 0; r < 10; r++) {
            KIT.due("drop(" + r + ")", x.drop(r) ? 1 : 0, 1);
            KIT.due("load() behind it", Kit.load(x, Kit.marc("001s" + r)), r);
        }
        for (int r : new int[] {7, 9, 0, 4}) {
            x.drop(r);
        }
        int[] due = {0, 4, 7, 9, CatalogQuery.FULL};
        for (int i = 0; i < due.length; i++) {
            KIT.due("load() number " + i, Kit.load(x, Kit.marc("001t" + i)), due[i]);
        }
        KIT.due("load() of none", new CatalogQuery().load(), FORM);
    }

    private static void bytesStay() {
        KIT.sentence("(BYTES stay.)");
        CatalogQuery x = new CatalogQuery();
        KIT.due("load()", Kit.load(x, GOOD), 0);
        KIT.due("BYTES", x.feed(0, 0, 0, 0, 0), GOOD.length());
        KIT.due("load() again", x.load(), CatalogQuery.TWICE);
        KIT.due("BYTES", x.feed(0, 0, 0, 0, 0), GOOD.length());
        x.drop(0);
        KIT.due("load() once more", x.load(), 0);
        KIT.due("octets", Kit.octets(x, 0), GOOD);
        Kit.feedMore(x, "x");
        KIT.due("load() of one more", x.load(), LENGTH);
        KIT.due("cut of it", x.cut(GOOD.length()), 1);
        KIT.due("load() of the rest", x.load(), CatalogQuery.TWICE);
    }
}
