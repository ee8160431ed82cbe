import java.util.TreeSet;

/** Promises 13 to 16: words, word, hits and below. */
public final class LexiconTest {
    private static final Kit KIT = new Kit("LexiconTest");

    public static void main(String[] args) {
        lexicons();
        characters();
        changes();
        below();
        wrongNumbers();
        manyWords();
        oneWordOften();
        KIT.end();
    }

    private static CatalogQuery loaded() {
        CatalogQuery x = new CatalogQuery();
        Kit.load(x, Kit.marc("001ab-1", "1001 $aSmith, John", "24514$aThe red fox$bthe FOX's tale",
                "260  $aParis$cc1987.", "650 0$aFoxes -- Fiction"));
        Kit.load(x, Kit.marc("001AB 2", "24509$ashort$along title here", "700  $aSmith",
                "260  $c1987, 1990", "005dog"));
        Kit.load(x, Kit.marc("001"));
        return x;
    }

    private static void lexicons() {
        CatalogQuery x = loaded();
        String[] due = {"1987 1990 c1987 fiction fox foxes here john long paris red s short smith:2"
            + " tale the title", "e fox here red s tale the", "john smith:2", "fiction foxes",
            "1987 1990 c1987", "1 2 ab:2"};
        for (int index = 0; index < 6; index++) {
            KIT.due("lexicon of " + index, Kit.lexicon(x, index), due[index]);
        }
        KIT.due("words of any", x.words(0), 17);
        CatalogQuery signs = new CatalogQuery();
        Kit.load(signs, Kit.marc("001*a?b", "500  $aA*b ? c@d[e`f{g"));
        KIT.due("signs belong to no WORD", Kit.lexicon(signs, 0), "a b c d e f g");
        KIT.due("nor in id", Kit.lexicon(signs, 5), "a b");
        KIT.due("words of id", x.words(5), 3);
    }

    private static void characters() {
        CatalogQuery x = loaded();
        KIT.due("first", x.word(2, 0, 0), 'j');
        KIT.due("last", x.word(2, 1, 4), 'h');
        KIT.due("behind it", x.word(2, 1, 5), ' ');
        KIT.due("word 2", x.word(2, 2, 0), ' ');
        KIT.due("hits of 2", x.hits(2, 2), 0);
        int[] wrong = {-1, 99, Integer.MAX_VALUE, Integer.MIN_VALUE};
        for (int n : wrong) {
            KIT.due("word k " + n, x.word(2, n, 0), ' ');
            KIT.due("word i " + n, x.word(2, 0, n), ' ');
            KIT.due("hits k " + n, x.hits(2, n), 0);
        }
    }

    private static void changes() {
        CatalogQuery x = loaded();
        KIT.due("before", Kit.lexicon(x, 2), "john smith:2");
        x.drop(0);
        KIT.due("after drop", Kit.lexicon(x, 2), "smith");
        KIT.due("title after drop", Kit.lexicon(x, 1), "e here");
        Kit.load(x, Kit.marc("001z", "100  $aa$aA smith", "100  $aSMITH"));
        KIT.due("after load", Kit.lexicon(x, 2), "a smith:2");
        KIT.due("a fault", Kit.load(x, Kit.marc("001z", "100  $aq")), CatalogQuery.TWICE);
        KIT.due("changes nothing", Kit.lexicon(x, 2), "a smith:2");
        x.drop(0);
        x.drop(1);
        KIT.due("none", x.words(2), 0);
    }

    private static void dueBelow(CatalogQuery x, String line, int index, int due) {
        Kit.type(x, line);
        KIT.due("below(" + index + ") of [" + line + "]", x.below(index), due);
    }

    private static void below() {
        CatalogQuery x = loaded();
        dueBelow(x, "", 1, 7);
        dueBelow(x, " *-\"( ", 1, 7);
        dueBelow(x, "a", 1, 0);
        dueBelow(x, "e", 1, 0);
        dueBelow(x, "ea", 1, 1);
        dueBelow(x, "fo", 1, 1);
        dueBelow(x, "FOX", 1, 1);
        dueBelow(x, "foxe", 1, 2);
        dueBelow(x, "zz", 1, 7);
        dueBelow(x, "0", 1, 0);
        dueBelow(x, "  \"(Red*zzz\" and e", 1, 3);
        dueBelow(x, "re?d", 1, 3);
        dueBelow(x, "*s e", 1, 4);
        dueBelow(x, "red", 0, 10);
        dueBelow(x, "1990", 4, 1);
        dueBelow(x, "19900", 4, 2);
        dueBelow(x, "zz", 3, 2);
        dueBelow(x, "ab", 5, 2);
        dueBelow(x, "\u00e9b", 5, 3);
        KIT.due("THE LINE stays", x.erase(), 2);
        KIT.due("place", x.place(), -1);
    }

    private static void wrongNumbers() {
        CatalogQuery x = loaded();
        int[] wrong = {-1, 6, Integer.MIN_VALUE, Integer.MAX_VALUE};
        for (int index : wrong) {
            KIT.dueArgumentFault("words(" + index + ")", () -> x.words(index));
            KIT.dueArgumentFault("word(" + index + ")", () -> x.word(index, 0, 0));
            KIT.dueArgumentFault("hits(" + index + ")", () -> x.hits(index, 0));
            KIT.dueArgumentFault("below(" + index + ")", () -> x.below(index));
        }
        KIT.due("nothing changed", Kit.lexicon(x, 5), "1 2 ab:2");
    }

    /** Ten RECORDS as long as can be, with WORDS of two characters, most of them different. */
    private static void manyWords() {
        CatalogQuery x = new CatalogQuery();
        TreeSet<String> all = new TreeSet<>();
        int number = 0;
        for (int r = 0; r < 10; r++) {
            StringBuilder text = new StringBuilder();
            for (int i = 0; i < 114; i++) {
                String word = Integer.toString(36 + number * 611 % 1260, 36);
                number++;
                all.add(word);
                text.append(word).append(' ');
            }
            KIT.due("load", Kit.load(x, Kit.marc("001" + r, "500  $a" + text)), r);
        }
        KIT.due("many words", x.words(0), all.size());
        int k = 0;
        for (String word : all) {
            if (k % 15 == 0) {
                KIT.due("word " + k, Kit.word(x, 0, k), word);
            }
            k++;
        }
        KIT.due("drop(0)", x.drop(0) ? 1 : 0, 1);
        KIT.due("fewer", x.words(0) < all.size() ? 1 : 0, 1);
    }

    private static void oneWordOften() {
        CatalogQuery x = new CatalogQuery();
        for (int r = 0; r < 10; r++) {
            KIT.due("load", Kit.load(x, Kit.marc("001" + r, "500  $a" + "z ".repeat(171))), r);
        }
        KIT.due("one word", Kit.lexicon(x, 0), "z:10");
    }
}
