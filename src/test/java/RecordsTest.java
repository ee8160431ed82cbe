/** Promises 5, 11 and 12: drop, record and octet. */
public final class RecordsTest {
    private static final Kit KIT = new Kit("RecordsTest");

    public static void main(String[] args) {
        drop();
        foundAfterDrop();
        counts();
        dates();
        octets();
        wrongNumbers();
        KIT.end();
    }

    private static void drop() {
        CatalogQuery x = KIT.loaded(Kit.marc("001a", "245  $afox"), Kit.marc("001b", "245  $adog"));
        KIT.due("drop(0)", x.drop(0) ? 1 : 0, 1);
        KIT.due("drop(0) again", x.drop(0) ? 1 : 0, 0);
        KIT.due("drop(9)", x.drop(9) ? 1 : 0, 0);
        KIT.due("record(0, 0)", x.record(0, 0), -1);
        KIT.due("octet(0, 0)", x.octet(0, 0), -1);
        KIT.due("record(1, 0)", x.record(1, 0), 2);
        KIT.due("words", Kit.lexicon(x, 0), "dog");
        KIT.due("search", Kit.asked(x, "fox"), "");
        KIT.due("search", Kit.asked(x, "dog"), "1");
        KIT.due("place", x.place(), -1);
    }

    private static void foundAfterDrop() {
        CatalogQuery x = KIT.loaded(Kit.marc("001a", "245  $az"), Kit.marc("001b", "245  $ay"),
                Kit.marc("001c", "245  $ax"));
        KIT.due("search", Kit.asked(x, "id any * sortby title"), "2 1 0");
        KIT.due("drop(1)", x.drop(1) ? 1 : 0, 1);
        KIT.due("the others are found", Kit.foundBy(x), "2 0");
        KIT.due("a new 1", Kit.load(x, Kit.marc("001d")), 1);
        KIT.due("is not among them", Kit.foundBy(x), "2 0");
        KIT.due("drop(2)", x.drop(2) ? 1 : 0, 1);
        KIT.due("the first is gone", Kit.foundBy(x), "0");
        KIT.due("drop(0)", x.drop(0) ? 1 : 0, 1);
        KIT.due("none is left", Kit.foundBy(x), "");
    }

    private static void counts() {
        CatalogQuery x = KIT.loaded(Kit.marc("001a"),
                Kit.marc("001b", "005$".substring(0, 3), "245  $a$b$cx$c", "999  $0"));
        KIT.due("FIELDS", x.record(0, 0), 1);
        KIT.due("length", x.record(0, 1), 40);
        KIT.due("DATE", x.record(0, 2), -1);
        KIT.due("TEXTS of any: 001 has none", x.record(0, 3), 0);
        KIT.due("FIELDS", x.record(1, 0), 4);
        KIT.due("length", x.record(1, 1), 24 + 48 + 1 + 2 + 1 + 12 + 5 + 1);
        KIT.due("TEXTS of any: empty ones too", x.record(1, 3), 5);
    }

    private static void dueDate(int date, String... fields) {
        String[] all = new String[fields.length + 1];
        all[0] = "001x1999";
        System.arraycopy(fields, 0, all, 1, fields.length);
        CatalogQuery x = KIT.loaded(Kit.marc(all));
        KIT.due("DATE of " + String.join(" ", fields), x.record(0, 2), date);
    }

    private static void dates() {
        dueDate(1987, "260  $c1987");
        dueDate(1987, "260  $aParis 1900$cc1987.");
        dueDate(1234, "260  $c12345");
        dueDate(1234, "260  $c12345678");
        dueDate(4567, "260  $c1 23 4567 8901");
        dueDate(-1, "260  $c19 87 198-7");
        dueDate(-1, "260  $c");
        dueDate(1990, "260  $cno date$c1990$c1991");
        dueDate(1990, "260  $c19$b1987", "260  $c90", "260  $c1990");
        dueDate(0, "260  $c0000");
        dueDate(7, "260  $c[0007]");
        dueDate(-1, "264  $c1987", "245  $c1987");
        dueDate(1987, "260  $c1$c987$ca1987");
    }

    private static void octets() {
        String text = Kit.marcLed("pzq  ", "00123", "245 1$athe$bx", "000abc", "26012$c");
        CatalogQuery x = KIT.loaded(text);
        KIT.due("octets", Kit.octets(x, 0), text);
        KIT.due("the last one", x.octet(0, text.length() - 1), 29);
        KIT.due("behind it", x.octet(0, text.length()), -1);
        KIT.due("octet -1", x.octet(0, -1), -1);
        KIT.due("octet of the least", x.octet(0, Integer.MIN_VALUE), -1);
        KIT.due("octet of the most", x.octet(0, Integer.MAX_VALUE), -1);
        KIT.due("of no RECORD", x.octet(1, 0), -1);
        x.cut(3);
        Kit.feedMore(x, "zzzzz");
        KIT.due("BYTES are others now", Kit.octets(x, 0), text);
    }

    private static void wrongNumbers() {
        CatalogQuery x = KIT.loaded(Kit.marc("001a", "245  $afox"));
        KIT.due("search", Kit.asked(x, "fox"), "0");
        int[] wrong = {-1, 10, Integer.MIN_VALUE, Integer.MAX_VALUE};
        for (int r : wrong) {
            KIT.dueArgumentFault("drop(" + r + ")", () -> x.drop(r));
            KIT.dueArgumentFault("record(" + r + ", 0)", () -> x.record(r, 0));
            KIT.dueArgumentFault("octet(" + r + ", 0)", () -> x.octet(r, 0));
        }
        int[] wrongWhat = {-1, 4, Integer.MIN_VALUE, Integer.MAX_VALUE};
        for (int what : wrongWhat) {
            KIT.dueArgumentFault("record(0, " + what + ")", () -> x.record(0, what));
            KIT.dueArgumentFault("record(5, " + what + ")", () -> x.record(5, what));
        }
        KIT.due("what throws changes nothing", Kit.foundBy(x), "0");
        KIT.due("what throws changes nothing", x.record(0, 0), 2);
        KIT.due("place", x.place(), -1);
    }
}
