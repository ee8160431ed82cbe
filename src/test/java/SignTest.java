import java.util.ArrayList;
import java.util.List;

/** Promises 8 and 9: what search cannot read, and where. */
public final class SignTest {
    private static final Kit KIT = new Kit("SignTest");
    private static final String FOUND = "0";

    public static void main(String[] args) {
        queries();
        signs();
        brackets();
        sorting();
        indexesAndRelations();
        everyCharacterCounts();
        faultsChangeNothing();
        KIT.end();
    }

    private static CatalogQuery loaded() {
        CatalogQuery x = new CatalogQuery();
        Kit.load(x, Kit.marc("001k", "245  $afox$bexact all any", "260  $c1990", "500  $atitle"));
        return x;
    }

    private static void reads(String line) {
        KIT.due("[" + line + "]", Kit.asked(loaded(), line), FOUND);
    }

    private static void sign(String line, int place) {
        KIT.due("[" + line + "]", Kit.asked(loaded(), line), "-2@" + place);
    }

    private static void queries() {
        String[] all = {"fox", "  fox  ", "\"fox\"", "title=fox", "title = fox", "TITLE=FOX",
            "title==fox", "title any fox", "title ANY fox", "tItLe Exact\"fox\"",
            "title any\"fox\"",
            "fox and fox", "\"fox\"and\"fox\"", "fox AND fox", "(fox)and(fox)", "fox or dog",
            "fox Not dog", "dog or fox", "( fox )", "date>1989", "date<=1990", "date>= 1990",
            "date <1991", "any any any", "any", "all", "exact", "any all all", "any adj exact",
            "title", "id=k", "\"and\" or fox", "fox sortby id", "fox sortby any", "fox SORTBY Id",
            "fox sortby title/descending", "fox sortby title / DESCENDING ", "any any \"fox and\"",
            "\u0009 or fox", "* and fo? and f*", "x-y or fox", "and* or fox", "\"\" or fox",
            "title any \"any\" not adj"};
        for (String line : all) {
            reads(line);
        }
        KIT.due("adj alone", Kit.asked(loaded(), "adj"), "");
        KIT.due("empty quotes", Kit.asked(loaded(), "\"\""), "");
    }

    private static void signs() {
        sign("", 0);
        sign("   ", 3);
        sign("and", 0);
        sign(" or", 1);
        sign("Not fox", 0);
        sign("SortBy title", 0);
        sign("descending", 0);
        sign("/", 0);
        sign("=", 0);
        sign("<= 5", 0);
        sign(")", 0);
        sign("fox and", 7);
        sign("fox and  ", 9);
        sign("fox and or dog", 8);
        sign("fox dog", 4);
        sign("fox \"dog\"", 4);
        sign("fox \"dog", 4);
        sign("\"fox\"\"dog\"", 5);
        sign("fox\"dog\"", 3);
        sign("\"title\" = fox", 8);
        sign("\"title\" any fox", 8);
        sign("\"fox", 4);
        sign("\"", 1);
        sign("title = \"fox", 12);
        sign("title=", 6);
        sign("title = ", 8);
        sign("title = and", 8);
        sign("title = descending", 8);
        sign("title = (fox)", 8);
        sign("title===fox", 7);
        sign("title=<fox", 6);
        sign("title<>fox", 6);
        sign("title = = fox", 8);
        sign("title any", 9);
        sign("title any any any", 14);
        sign("title any all fox", 14);
        sign("any any", 7);
        sign("title any and", 10);
        sign("title fox = any", 6);
        sign("fox/", 3);
        sign("fox descending", 4);
        sign("fox and not dog", 8);
        sign("x=1 y=2", 4);
    }

    private static void brackets() {
        reads("((((((fox))))))");
        reads("((((((fox)))))) and ((((((fox))))))");
        sign("(((((((fox)))))))", 6);
        sign("((((((fox or (dog)))))))", 13);
        sign("()", 1);
        sign("( )", 2);
        sign("(fox", 4);
        sign("(fox ", 5);
        sign("fox)", 3);
        sign("(fox))", 5);
        sign("(fox and)", 8);
        sign("(fox)(fox)", 5);
        sign("(fox) fox", 6);
        sign("fox (fox)", 4);
        sign("(title) = fox", 8);
        sign("(fox sortby title)", 5);
        sign("title (= fox)", 6);
        sign("(((((((", 6);
        sign("fox or (", 8);
    }

    private static void sorting() {
        reads("(fox) sortby subject");
        sign("fox sortby", 10);
        sign("fox sortby \"title\"", 11);
        sign("fox sortby \"title", 11);
        sign("fox sortby and", 11);
        sign("fox sortby descending", 11);
        sign("fox sortby / descending", 11);
        sign("fox sortby title descending", 17);
        sign("fox sortby title/", 17);
        sign("fox sortby title/ascending", 17);
        sign("fox sortby title/descending/", 27);
        sign("fox sortby title/\"descending\"", 17);
        sign("fox sortby title and fox", 17);
        sign("fox sortby title sortby id", 17);
        sign("fox sortby title = x", 17);
        sign("fox sortby title any x", 17);
        sign("fox sortby titel/up", 17);
        sign("sortby", 0);
    }

    private static void indexesAndRelations() {
        String[][] all = {{"titel = fox", "-3@0"}, {"fox or  x any y", "-3@8"},
            {"fox sortby x", "-3@11"}, {"all any fox", "-3@0"}, {"title* = x", "-3@0"},
            {"x = 1 or y = 2", "-3@0"}, {"title < 5", "-4@6"}, {"title<=5", "-4@5"},
            {"any > 5", "-4@4"}, {"id >= 5", "-4@3"}, {"author<5", "-4@6"}, {"subject>5", "-4@7"},
            {"title < 5 or x = 1", "-4@6"}, {"x < 5 or title < 5", "-3@0"}, {"x<5", "-3@0"},
            {"date < 5 and title > 1 sortby x", "-4@19"}, {"(title < 5", "-2@10"},
            {"x = 1 or", "-2@8"}, {"fox sortby x/descending", "-3@11"},
            {"fox or title < 5 sortby x", "-4@13"}, {"(x = 1) sortby y", "-3@1"},
            {"date < fox", ""}, {"x == \"fox", "-2@9"}};
        for (String[] row : all) {
            KIT.due("[" + row[0] + "]", Kit.asked(loaded(), row[0]), row[1]);
        }
    }

    /** A word of the language with one character changed, lacking or more is another NAME. */
    private static void everyCharacterCounts() {
        for (String word : new String[] {"and", "or", "not", "any", "all", "adj", "exact"}) {
            for (String other : spoilt(word)) {
                sign("title " + other + " fox", 6);
            }
        }
        for (String other : spoilt("sortby")) {
            sign("fox " + other + " title", 4);
        }
        for (String other : spoilt("descending")) {
            sign("fox sortby title/" + other, 17);
        }
        for (String word : new String[] {"any", "title", "author", "subject", "date", "id"}) {
            for (String other : spoilt(word)) {
                KIT.due(other, Kit.asked(loaded(), "fox or " + other + " = x"), "-3@7");
                KIT.due(other, Kit.asked(loaded(), "fox sortby " + other), "-3@11");
            }
        }
    }

    private static List<String> spoilt(String word) {
        List<String> all = new ArrayList<>(List.of(word + "x", "x" + word));
        for (int p = 0; p < word.length(); p++) {
            all.add(word.substring(0, p) + "x" + word.substring(p + 1));
            all.add(word.substring(0, p) + (char) (word.charAt(p) + 128) + word.substring(p + 1));
            all.add(word.substring(0, p) + word.substring(p + 1));
        }
        all.remove(word);
        return all;
    }

    private static void faultsChangeNothing() {
        CatalogQuery x = loaded();
        KIT.due("found", Kit.asked(x, "fox"), "0");
        String[] faults = {"fox and", "x = 1", "title < 5"};
        for (String line : faults) {
            KIT.due("a fault", Kit.search(x, line) < 0 ? 1 : 0, 1);
            KIT.due("what was found stays", Kit.foundBy(x), "0");
            KIT.due("THE LINE stays", x.erase(), line.length());
        }
        KIT.due("place stays till the next", x.place(), 6);
        KIT.dueArgumentFault("a call that throws", () -> x.words(6));
        KIT.due("place stays", x.place(), 6);
        KIT.due("search", Kit.search(x, "dog"), 0);
        KIT.due("no fault", x.place(), -1);
        KIT.due("none found", Kit.foundBy(x), "");
        KIT.due("a fault of load", Kit.load(x, "0000x"), CatalogQuery.FORM);
        KIT.due("its place", x.place(), 4);
        KIT.due("search", Kit.search(x, "fox"), 1);
        KIT.due("the last of them had none", x.place(), -1);
        KIT.due("a fault of search", Kit.search(x, "fox )"), CatalogQuery.SIGN);
        KIT.due("its place", x.place(), 4);
        KIT.due("load", Kit.load(x, Kit.marc("001new")), 1);
        KIT.due("the last of them had none", x.place(), -1);
        KIT.due("load leaves what was found", Kit.foundBy(x), "0");
        KIT.due("found(-1)", x.found(-1), -1);
        KIT.due("found(1)", x.found(1), -1);
        KIT.due("found of the most", x.found(Integer.MAX_VALUE), -1);
        KIT.due("found of the least", x.found(Integer.MIN_VALUE), -1);
    }
}
