/** Promise 4: load, its FAULTS in their order and at their places. */
public final class LoadTest {
    private static final Kit KIT = new Kit("LoadTest");
    private static final char END = 29;
    private static final char FIELD_END = 30;

    /** Three FIELDS: the ENTRIES at 24, 36, 48, the BASE 61, FIELDS at 61, 64, 67, 29 at 77. */
    private static final String GOOD = Kit.marc("001ab", "005zz", "245 4$aThe x");

    public static void main(String[] args) {
        due("good", GOOD, 0, CatalogQuery.NONE);
        leader();
        lackingBytes();
        entries();
        fields();
        end();
        order();
        numbers();
        KIT.end();
    }

    private static void due(String what, String bytes, int answer, int place) {
        CatalogQuery x = new CatalogQuery();
        KIT.due(what, Kit.load(x, bytes), answer);
        KIT.due("place of: " + what, x.place(), place);
        KIT.due("RECORD of: " + what, x.record(0, 1), answer == 0 ? bytes.length() : -1);
        KIT.due("BYTES stay: " + what, x.cut(0), bytes.length());
    }

    private static void leader() {
        String[] can = new String[24];
        for (int p = 0; p < 24; p++) {
            can[p] = "0123456789";
        }
        can[5] = "acdnp";
        can[6] = "abcdefghijklmnopqrstuvwxyz";
        can[7] = can[6];
        can[8] = " ";
        can[9] = " a";
        can[10] = "2";
        can[11] = "2";
        can[17] = " ";
        can[18] = " ";
        can[19] = " ";
        can[20] = "4";
        can[21] = "5";
        can[22] = "0";
        can[23] = "0";
        for (int p = 0; p < 24; p++) {
            for (char c = 0; c < 256; c++) {
                boolean fits = can[p].indexOf(c) >= 0;
                CatalogQuery x = new CatalogQuery();
                int answer = Kit.load(x, Kit.put(GOOD, p, c));
                boolean isForm = answer == CatalogQuery.FORM && x.place() == p;
                KIT.due("LEADER " + p + " with " + (int) c, isForm ? 1 : 0, fits ? 0 : 1);
            }
        }
        due("two wrong bytes", Kit.put(Kit.put(GOOD, 9, "b"), 20, "x"), CatalogQuery.FORM, 9);
        for (String five : new String[] {"aaa  ", "czz a", "dbc  ", "pxy a"}) {
            due("LEADER " + five, Kit.marcLed(five, "001x"), 0, CatalogQuery.NONE);
        }
    }

    private static void lackingBytes() {
        for (int n = 0; n < 24; n++) {
            due("a LEADER of " + n, GOOD.substring(0, n), CatalogQuery.FORM, n);
        }
        for (int n = 24; n < GOOD.length(); n++) {
            due(n + " BYTES", GOOD.substring(0, n), CatalogQuery.LENGTH, 0);
            due(n + " BYTES, sized", Kit.sized(GOOD.substring(0, n)), CatalogQuery.FORM, n);
        }
        due("a wrong byte before one lacks", Kit.put(GOOD, 6, "X").substring(0, 9),
                CatalogQuery.FORM, 6);
        due("one too many", GOOD + "x", CatalogQuery.LENGTH, 0);
        due("length 0", Kit.put(GOOD, 0, "00000"), CatalogQuery.LENGTH, 0);
        due("length 99999", Kit.put(GOOD, 0, "99999"), CatalogQuery.LENGTH, 0);
    }

    private static void entries() {
        for (int p = 24; p < 60; p++) {
            due("a letter at " + p, Kit.put(GOOD, p, "x"), CatalogQuery.FORM, p);
            if (p % 12 != 0 || p == 24) {
                due("30 at " + p, Kit.put(GOOD, p, FIELD_END), CatalogQuery.FORM, p);
            }
        }
        due("30 behind the first ENTRY", Kit.put(GOOD, 36, FIELD_END), CatalogQuery.LENGTH, 12);
        due("29 for 30", Kit.put(GOOD, 60, END), CatalogQuery.FORM, 60);
        due("no ENTRIES", Kit.sized(GOOD.substring(0, 12) + "00025" + GOOD.substring(17, 24)
                + FIELD_END + END), CatalogQuery.FORM, 24);
        due("no end of digits", Kit.sized(GOOD.substring(0, 24) + "0".repeat(100)),
                CatalogQuery.FORM, 124);
        for (String base : new String[] {"00060", "00062", "00000", "99999"}) {
            due("BASE " + base, Kit.put(GOOD, 12, base), CatalogQuery.LENGTH, 12);
        }
    }

    private static void fields() {
        due("another first TAG", Kit.put(GOOD, 24, "002"), CatalogQuery.FIELD, 24);
        due("a second 001", Kit.put(GOOD, 36, "001"), CatalogQuery.FIELD, 36);
        due("a third 001", Kit.put(GOOD, 48, "001"), CatalogQuery.FIELD, 48);
        due("first start", Kit.put(GOOD, 31, "00001"), CatalogQuery.LENGTH, 31);
        due("second start", Kit.put(GOOD, 43, "00002"), CatalogQuery.LENGTH, 43);
        due("third start", Kit.put(GOOD, 55, "99999"), CatalogQuery.LENGTH, 55);
        due("first length", Kit.put(GOOD, 27, "0004"), CatalogQuery.LENGTH, 27);
        due("second length", Kit.put(GOOD, 39, "0002"), CatalogQuery.LENGTH, 39);
        due("third length", Kit.put(GOOD, 51, "0000"), CatalogQuery.LENGTH, 51);
        for (int p = 61; p < GOOD.length() - 1; p++) {
            due("7 at " + p, Kit.put(GOOD, p, '\u0007'), CatalogQuery.FORM, p);
            due("127 at " + p, Kit.put(GOOD, p, '\u007f'), CatalogQuery.FORM, p);
            due("29 at " + p, Kit.put(GOOD, p, END), CatalogQuery.FORM, p);
        }
        due("31 in 001", Kit.put(GOOD, 61, '\u001f'), CatalogQuery.FORM, 61);
        due("30 as an INDICATOR", Kit.put(GOOD, 67, FIELD_END), CatalogQuery.FORM, 67);
        due("30 as the second", Kit.put(GOOD, 68, FIELD_END), CatalogQuery.FORM, 68);
        due("a letter as INDICATOR", Kit.put(GOOD, 68, "a"), CatalogQuery.FORM, 68);
        due("30 for 31", Kit.put(GOOD, 69, FIELD_END), CatalogQuery.FORM, 69);
        due("a letter for 31", Kit.put(GOOD, 69, "a"), CatalogQuery.FORM, 69);
        for (String code : new String[] {"A", " ", "-", "\u001e", "\u001f"}) {
            due("a CODE " + code, Kit.put(GOOD, 70, code), CatalogQuery.FORM, 70);
        }
        due("30 too soon", Kit.put(GOOD, 73, FIELD_END), CatalogQuery.LENGTH, 51);
        String[] can = {"001", "001 ~", "001x", "009", "01000$a", "99999$0$9", "24590$z$a$b~ "};
        for (int i = 3; i < can.length; i++) {
            due("FIELD " + can[i], Kit.marc("001x", can[i]), 0, CatalogQuery.NONE);
        }
        due("an empty 001", Kit.marc(can[0]), 0, CatalogQuery.NONE);
        due("signs in 001", Kit.marc(can[1]), 0, CatalogQuery.NONE);
        due("TAG 010 without SUBFIELDS", Kit.marc("001x", "010ab"), CatalogQuery.FORM, 51);
        due("TAG 009 is text alone", Kit.marc("001x", "009  $a"), CatalogQuery.FORM, 53);
        due("TAG 000", Kit.marc("001x", "000y"), 0, CatalogQuery.NONE);
    }

    private static void end() {
        int last = GOOD.length() - 1;
        due("30 for 29", Kit.put(GOOD, last, FIELD_END), CatalogQuery.FORM, last);
        due("29 lacks", Kit.sized(GOOD.substring(0, last)), CatalogQuery.FORM, last);
        due("a byte behind 29", Kit.sized(GOOD + "x"), CatalogQuery.FORM, last + 1);
        due("29 twice", Kit.sized(GOOD + END), CatalogQuery.FORM, last + 1);
    }

    private static void order() {
        String wrong = GOOD;
        wrong = Kit.put(wrong, GOOD.length() - 1, "x");
        due("29", wrong, CatalogQuery.FORM, GOOD.length() - 1);
        wrong = Kit.put(wrong, 51, "0099");
        due("a FIELD's length before", wrong, CatalogQuery.LENGTH, 51);
        wrong = Kit.put(wrong, 70, "A");
        due("its bytes before", wrong, CatalogQuery.FORM, 70);
        wrong = Kit.put(wrong, 55, "00099");
        due("its start before", wrong, CatalogQuery.LENGTH, 55);
        wrong = Kit.put(wrong, 48, "001");
        due("its TAG before", wrong, CatalogQuery.FIELD, 48);
        wrong = Kit.put(wrong, 39, "0099");
        due("the FIELD before it", wrong, CatalogQuery.LENGTH, 39);
        wrong = Kit.put(wrong, 12, "00099");
        due("the BASE before", wrong, CatalogQuery.LENGTH, 12);
        wrong = Kit.put(wrong, 40, "x");
        due("the ENTRIES before", wrong, CatalogQuery.FORM, 40);
        wrong = Kit.put(wrong, 0, "00099");
        due("the RECORD's length before", wrong, CatalogQuery.LENGTH, 0);
        wrong = Kit.put(wrong, 23, "x");
        due("the LEADER before", wrong, CatalogQuery.FORM, 23);
    }

    private static void numbers() {
        CatalogQuery x = new CatalogQuery();
        for (int r = 0; r < 10; r++) {
            KIT.due("load number", Kit.load(x, Kit.marc("001n" + r, "245  $aw" + r)), r);
            KIT.due("place", x.place(), CatalogQuery.NONE);
        }
        KIT.due("FULL", Kit.load(x, Kit.marc("001n")), CatalogQuery.FULL);
        KIT.due("place of FULL", x.place(), 0);
        KIT.due("TWICE before FULL", Kit.load(x, Kit.marc("001n7", "005")), CatalogQuery.TWICE);
        KIT.due("place of TWICE", x.place(), 49);
        KIT.due("FORM before TWICE", Kit.load(x, Kit.put(Kit.marc("001n7"), 9, "b")),
                CatalogQuery.FORM);
        KIT.due("drop(3)", x.drop(3) ? 1 : 0, 1);
        KIT.due("drop(6)", x.drop(6) ? 1 : 0, 1);
        KIT.due("the least number", Kit.load(x, Kit.marc("001n6")), 3);
        KIT.due("BYTES stay", x.load(), CatalogQuery.TWICE);
        KIT.due("the same text once more", Kit.load(x, Kit.marc("001n3")), 6);
        KIT.due("large letters are others", Kit.load(x, Kit.marc("001N3")), CatalogQuery.FULL);
        KIT.due("RECORDS as before", Kit.octets(x, 9), Kit.marc("001n9", "245  $aw9"));
        KIT.due("words of any", Kit.lexicon(x, 0), "w0 w1 w2 w4 w5 w7 w8 w9");
        twiceByText();
    }

    private static void twiceByText() {
        CatalogQuery x = new CatalogQuery();
        KIT.due("empty", Kit.load(x, Kit.marc("001")), 0);
        KIT.due("empty again", Kit.load(x, Kit.marc("001", "245  $a")), CatalogQuery.TWICE);
        KIT.due("its place", x.place(), 49);
        KIT.due("a blank", Kit.load(x, Kit.marc("001 ")), 1);
        KIT.due("ab", Kit.load(x, Kit.marc("001ab")), 2);
        KIT.due("a beginning of it", Kit.load(x, Kit.marc("001a")), 3);
        KIT.due("longer", Kit.load(x, Kit.marc("001abc")), 4);
        KIT.due("large", Kit.load(x, Kit.marc("001AB")), 5);
        KIT.due("the same, other FIELDS", Kit.load(x, Kit.marc("001ab", "005")),
                CatalogQuery.TWICE);
        String longest = Kit.marc("001q", "500  $a" + "y".repeat(343));
        KIT.due("400 BYTES", longest.length(), 400);
        KIT.due("load of them", Kit.load(x, longest), 6);
        KIT.due("octets", Kit.octets(x, 6), longest);
    }
}
