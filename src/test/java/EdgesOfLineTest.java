/** Promises 6 and 7, sentence by sentence: the edges of type and erase. */
public final class EdgesOfLineTest {
    private static final Kit KIT = new Kit("EdgesOfLineTest");
    private static final int FOUR = 0x61616161;

    public static void main(String[] args) {
        typeTakesUpToTwenty();
        zeroIsNone();
        highestByteFirst();
        typeRefuses();
        lineIsAHundred();
        erase();
        KIT.end();
    }

    private static CatalogQuery typed(int many) {
        CatalogQuery x = new CatalogQuery();
        Kit.typeMore(x, "a".repeat(many));
        return x;
    }

    private static void typeTakesUpToTwenty() {
        KIT.sentence("Up to twenty characters more of THE LINE");
        for (int many = 0; many <= 20; many++) {
            String text = "a".repeat(many);
            CatalogQuery x = typed(3);
            KIT.due("type of " + many, x.type(Kit.four(text, 0), Kit.four(text, 4),
                    Kit.four(text, 8), Kit.four(text, 12), Kit.four(text, 16)), 3 + many);
            KIT.due("THE LINE has them", x.erase(), 3 + many);
        }
    }

    private static void zeroIsNone() {
        KIT.sentence("a byte 0 is none.");
        CatalogQuery x = new CatalogQuery();
        KIT.due("type of zeros", x.type(0, 0, 0, 0, 0), 0);
        for (int shift = 0; shift < 32; shift += 8) {
            int one = 1 << shift;
            x.erase();
            KIT.due("one in a", x.type(one, 0, 0, 0, 0), 1);
            KIT.due("one in b", x.type(0, one, 0, 0, 0), 2);
            KIT.due("one in c", x.type(0, 0, one, 0, 0), 3);
            KIT.due("one in d", x.type(0, 0, 0, one, 0), 4);
            KIT.due("one in e", x.type(0, 0, 0, 0, one), 5);
            KIT.due("three in each", x.type(~(255 << shift), ~(255 << shift), ~(255 << shift),
                    ~(255 << shift), ~(255 << shift)), 20);
        }
        KIT.due("zeros behind some", x.type(0, 0, 0, 0, 0), 20);
    }

    /** THE LINE's characters show in below: it counts the WORDS before the first of them. */
    private static void highestByteFirst() {
        KIT.sentence("four in each number, the highest byte first");
        CatalogQuery x = new CatalogQuery();
        Kit.load(x, Kit.marc("001x", "24500$aabcdefghijklmnopqrst"));
        x.type(0x61626364, 0x65666768, 0x696a6b6c, 0x6d6e6f70, 0x71727374);
        KIT.due("twenty at once", x.search(), 1);
        x.erase();
        x.type(0x61006200, 0x00630064, 0, 0x65666700, 0x00000068);
        x.type(0, 0, 0x696a6b6c, 0x006d6e6f, 0x70717200);
        x.type(0x00007374, 0, 0, 0, 0);
        KIT.due("with zeros between", x.search(), 1);
        KIT.due("and no character more", x.erase(), 20);
    }

    private static void typeRefuses() {
        KIT.sentence("IllegalState: it would have more than 100.");
        for (int many = 1; many <= 20; many++) {
            String text = "a".repeat(many);
            int a = Kit.four(text, 0);
            int b = Kit.four(text, 4);
            int c = Kit.four(text, 8);
            int d = Kit.four(text, 12);
            int e = Kit.four(text, 16);
            CatalogQuery full = typed(100);
            KIT.refusedState("type of " + many + " at 100", full, () -> full.type(a, b, c, d, e));
            CatalogQuery almost = typed(101 - many);
            KIT.refusedState("one too many of " + many, almost, () -> almost.type(a, b, c, d, e));
            KIT.due(many + " that just fit", typed(100 - many).type(a, b, c, d, e), 100);
        }
        CatalogQuery full = typed(100);
        KIT.due("zeros at 100", full.type(0, 0, 0, 0, 0), 100);
        for (int shift = 0; shift < 32; shift += 8) {
            int one = 255 << shift;
            KIT.dueStateFault("one in a at 100", () -> full.type(one, 0, 0, 0, 0));
            KIT.dueStateFault("one in b at 100", () -> full.type(0, one, 0, 0, 0));
            KIT.dueStateFault("one in c at 100", () -> full.type(0, 0, one, 0, 0));
            KIT.dueStateFault("one in d at 100", () -> full.type(0, 0, 0, one, 0));
            KIT.dueStateFault("one in e at 100", () -> full.type(0, 0, 0, 0, one));
        }
        Kit.load(full, Kit.marc("001x", "24500$a" + "a".repeat(100)));
        KIT.due("the characters are the same", full.search(), 1);
        KIT.due("and as many", full.erase(), 100);
    }

    private static void lineIsAHundred() {
        KIT.sentence("THE LINE, at most 100 characters, is a QUERY");
        CatalogQuery x = new CatalogQuery();
        Kit.load(x, Kit.marc("001x", "24500$afox"));
        String last = " ".repeat(97) + "fox";
        KIT.due("a WORD at the very end", Kit.asked(x, last), "0");
        KIT.due("a SIGN at the last place", Kit.asked(x, " ".repeat(95) + "fox /"), "-2@99");
        KIT.due("a SIGN behind it", Kit.asked(x, " ".repeat(94) + "fox or"), "-2@100");
        KIT.due("a hundred blanks", Kit.asked(x, " ".repeat(100)), "-2@100");
        KIT.due("a hundred brackets", Kit.asked(x, "(".repeat(100)), "-2@6");
        KIT.due("an unclosed one", Kit.asked(x, " ".repeat(99) + "\""), "-2@100");
        KIT.due("characters, each a sign", Kit.asked(x, "\"".repeat(100)), "-2@2");
        KIT.due("one long TERM", Kit.asked(x, "\"" + " ".repeat(95) + "fox\""), "0");
        KIT.due("many WORDS", Kit.asked(x, "any any\"" + "z ".repeat(44) + "fox\""), "0");
        KIT.due("many CLAUSES", Kit.asked(x, "\"\"or".repeat(23) + "\"\"or fox"), "0");
        KIT.due("its characters", x.erase(), 100);
        CatalogQuery fifty = new CatalogQuery();
        Kit.load(fifty, Kit.marc("001x", "24500$a" + "a ".repeat(49)));
        Kit.load(fifty, Kit.marc("001y", "24500$a" + "a ".repeat(50)));
        KIT.due("a NAME of fifty WORDS", Kit.asked(fifty, "a-".repeat(50)), "1");
        KIT.due("one of fifty without the last", Kit.asked(fifty, "a-".repeat(49) + "b"), "");
    }

    private static void erase() {
        KIT.sentence("THE LINE is empty: how many characters it had.");
        KIT.due("erase() of none", new CatalogQuery().erase(), 0);
        for (int many : new int[] {1, 20, 99, 100}) {
            CatalogQuery x = typed(many);
            KIT.due("erase() of " + many, x.erase(), many);
            KIT.due("erase() again", x.erase(), 0);
            KIT.due("its length", x.type(0, 0, 0, 0, 0), 0);
            KIT.due("search() of none", x.search(), CatalogQuery.SIGN);
            KIT.due("its place", x.place(), 0);
            KIT.due("type behind it", x.type(FOUR, FOUR, FOUR, FOUR, FOUR), 20);
        }
        CatalogQuery x = new CatalogQuery();
        Kit.load(x, Kit.marc("001x", "24500$afox"));
        Kit.search(x, "fox");
        KIT.due("erase()", x.erase(), 3);
        KIT.due("what was found stays", Kit.foundBy(x), "0");
        KIT.due("below() of an empty LINE", x.below(1), 1);
        nothingIsLeftOf("date > 1000", "date > 100", "");
        nothingIsLeftOf("title = foxes", "title = fox", "0");
        nothingIsLeftOf("title == fox", "title =", "-2@7");
        nothingIsLeftOf("fox and fox", "fox and", "-2@7");
        nothingIsLeftOf("\"fox\"", "\"fox", "-2@4");
        nothingIsLeftOf("fox sortby idx", "fox sortby id", "0");
        nothingIsLeftOf("fox)", "fox", "0");
    }

    /** A LINE is erased, and its beginning typed: what stood behind that is gone. */
    private static void nothingIsLeftOf(String line, String beginning, String answer) {
        CatalogQuery x = new CatalogQuery();
        Kit.load(x, Kit.marc("001x", "24500$afox", "26000$c1990"));
        Kit.type(x, line);
        x.search();
        KIT.due("[" + beginning + "] behind [" + line + "]", Kit.asked(x, beginning), answer);
        KIT.due("its length", x.erase(), beginning.length());
    }
}
