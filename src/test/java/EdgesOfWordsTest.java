/** Promises 13 to 16 with the WORDS of 'Terms', sentence by sentence. */
public final class EdgesOfWordsTest {
    private static final Kit KIT = new Kit("EdgesOfWordsTest");
    private static final int[] NO_INDEX = {-1, 6, Integer.MIN_VALUE, Integer.MAX_VALUE};
    private static final int[] NO_PLACE = {-1, Integer.MIN_VALUE, Integer.MAX_VALUE};

    public static void main(String[] args) {
        wordsOfAText();
        howManyDifferent();
        wordsRefuses();
        charactersOfWords();
        noCharacter();
        wordRefuses();
        howManyHave();
        hitsRefuses();
        comeBefore();
        allComeBefore();
        belowRefuses();
        KIT.end();
    }

    private static CatalogQuery subjects(String... subjects) {
        CatalogQuery x = new CatalogQuery();
        for (int r = 0; r < subjects.length; r++) {
            String[] texts = subjects[r].split("\\|", -1);
            String[] fields = new String[texts.length + 1];
            fields[0] = "001r" + r;
            for (int i = 0; i < texts.length; i++) {
                fields[i + 1] = "65000$a" + texts[i];
            }
            KIT.due("load", Kit.load(x, Kit.marc(fields)), r);
        }
        return x;
    }

    private static void dueWords(String text, String due) {
        KIT.due("WORDS of [" + text + "]", Kit.lexicon(subjects(text), 3), due);
    }

    private static void wordsOfAText() {
        KIT.sentence("WORDS of a text: letters and digits that stand together, small letters for"
                + " large ones.");
        dueWords("", "");
        dueWords(" ", "");
        dueWords("-", "");
        dueWords("a", "a");
        dueWords("9", "9");
        dueWords("a9Z", "a9z");
        dueWords(" a", "a");
        dueWords("a ", "a");
        dueWords("a-b", "a b");
        dueWords("a'b_c", "a b c");
        dueWords("/0x9:", "0x9");
        dueWords("@AxZ[", "axz");
        dueWords("`axz{", "axz");
        dueWords("*?~", "");
        dueWords("a*b?c", "a b c");
        dueWords("AZ az Az", "az");
        for (char c = 32; c < 127; c++) {
            boolean belongs = c >= '0' && c <= '9' || c >= 'a' && c <= 'z' || c >= 'A' && c <= 'Z';
            KIT.due("x" + c + "x", subjects("x" + c + "x").word(3, 0, 2), belongs ? 'x' : ' ');
        }
        dueWords("y".repeat(200), "y".repeat(200));
        dueWords("a|b", "a b");
    }

    private static void howManyDifferent() {
        KIT.sentence("How many different WORDS an INDEX has, of all RECORDS.");
        CatalogQuery none = new CatalogQuery();
        for (int index = 0; index < 6; index++) {
            KIT.due("words(" + index + ") of none", none.words(index), 0);
        }
        CatalogQuery bare = new CatalogQuery();
        Kit.load(bare, Kit.marc("001", "24500$a", "10000$a--", "65000$a", "26000$c", "500  $9"));
        for (int index = 0; index < 6; index++) {
            KIT.due("words(" + index + ") of empty TEXTS", bare.words(index), 0);
        }
        CatalogQuery x = subjects("a A a|a", "A", "b a");
        KIT.due("the same ones", x.words(3), 2);
        KIT.due("all RECORDS' ids", x.words(5), 3);
        x.drop(2);
        KIT.due("one less", x.words(3), 1);
        x.drop(0);
        KIT.due("another RECORD has it too", x.words(3), 1);
        x.drop(1);
        KIT.due("none is left", x.words(3), 0);
        KIT.due("one again", Kit.load(x, Kit.marc("001z", "65000$az")), 0);
        KIT.due("one more", x.words(3), 1);
        mostWords();
    }

    /** Beside one character of 001 a TEXT of 343 goes into 400 BYTES: 172 WORDS of one, or 114. */
    private static void mostWords() {
        CatalogQuery x = new CatalogQuery();
        int number = 0;
        for (int r = 0; r < 10; r++) {
            StringBuilder text = new StringBuilder();
            while (text.length() + 3 <= 343) {
                text.append(Integer.toString(36 + number, 36)).append(' ');
                number++;
            }
            String bytes = Kit.marc("001" + r, "65000$a" + text);
            KIT.due("load of " + bytes.length(), Kit.load(x, bytes), r);
        }
        KIT.due("WORDS of two characters", x.words(3), 1140);
        KIT.due("the first", Kit.word(x, 3, 0), "10");
        KIT.due("the last", Kit.word(x, 3, 1139), Integer.toString(36 + 1139, 36));
        KIT.due("none behind", x.word(3, 1140, 0), ' ');
        KIT.due("hits of the last", x.hits(3, 1139), 1);
        KIT.due("hits of none behind", x.hits(3, 1140), 0);
        KIT.due("any has them too", x.words(0), 1140);
        CatalogQuery same = new CatalogQuery();
        String often = "65000$a" + "z ".repeat(171) + "z";
        KIT.due("load of 400", Kit.load(same, Kit.marc("0010", often)), 0);
        KIT.due("its length", same.record(0, 1), 400);
        KIT.due("load of 400 more", Kit.load(same, Kit.marc("0011", often)), 1);
        KIT.due("one WORD 172 times", Kit.lexicon(same, 3), "z:2");
    }

    private static void wordsRefuses() {
        KIT.sentence("of all RECORDS. IllegalArgument: not 0 .. 5.");
        CatalogQuery x = subjects("a");
        for (int index : NO_INDEX) {
            KIT.refusedArgument("words(" + index + ")", x, () -> x.words(index));
            KIT.dueArgumentFault("words of none", () -> new CatalogQuery().words(index));
        }
        KIT.due("words(0)", x.words(0), 1);
        KIT.due("words(5)", x.words(5), 1);
    }

    private static void charactersOfWords() {
        KIT.sentence("Character i of WORD k of an INDEX, sorted by characters' numbers (a beginning"
                + " before the longer one)");
        CatalogQuery x = subjects("b ab a Z aa 9 0 a0 abc ab0", "zz z00 a");
        KIT.due("sorted", Kit.lexicon(x, 3), "0 9 a:2 a0 aa ab ab0 abc b z z00 zz");
        KIT.due("first of the first", x.word(3, 0, 0), '0');
        KIT.due("first of the last", x.word(3, 11, 0), 'z');
        KIT.due("last of the last", x.word(3, 11, 1), 'z');
        KIT.due("last of the longest", x.word(3, 10, 2), '0');
        CatalogQuery longest = new CatalogQuery();
        Kit.load(longest, Kit.marc("001" + "y".repeat(360) + "z"));
        KIT.due("first of 361", longest.word(5, 0, 0), 'y');
        KIT.due("last of 361", longest.word(5, 0, 360), 'z');
        KIT.due("none behind", longest.word(5, 0, 361), ' ');
    }

    private static void noCharacter() {
        KIT.sentence("a space if there is none.");
        CatalogQuery x = subjects("ab c");
        KIT.due("behind the first", x.word(3, 0, 2), ' ');
        KIT.due("behind the last", x.word(3, 1, 1), ' ');
        KIT.due("no WORD 2", x.word(3, 2, 0), ' ');
        for (int n : NO_PLACE) {
            KIT.due("character " + n, x.word(3, 0, n), ' ');
            KIT.due("character " + n + " of the second", x.word(3, 1, n), ' ');
            KIT.due("WORD " + n, x.word(3, n, 0), ' ');
            KIT.due("both " + n, x.word(3, n, n), ' ');
            KIT.due("of an INDEX without WORDS", x.word(2, n, 0), ' ');
        }
        KIT.due("an INDEX without WORDS", x.word(4, 0, 0), ' ');
        KIT.due("no RECORDS", new CatalogQuery().word(0, 0, 0), ' ');
        x.drop(0);
        KIT.due("a RECORD that is gone", x.word(3, 0, 0), ' ');
    }

    private static void wordRefuses() {
        KIT.sentence("a space if there is none. IllegalArgument: not 0 .. 5.");
        CatalogQuery x = subjects("a");
        for (int index : NO_INDEX) {
            KIT.refusedArgument("word(" + index + ")", x, () -> x.word(index, 0, 0));
            KIT.dueArgumentFault("word of none", () -> x.word(index, -1, -1));
        }
        KIT.due("word(0)", x.word(0, 0, 0), 'a');
        KIT.due("word(5)", x.word(5, 0, 0), 'r');
    }

    private static void howManyHave() {
        KIT.sentence("How many RECORDS have WORD k of an INDEX in it; 0 if there is none.");
        CatalogQuery x = new CatalogQuery();
        for (int r = 0; r < 10; r++) {
            KIT.due("load", Kit.load(x, Kit.marc("001r" + r, "65000$aa A$xb", "65000$aa w" + r)),
                    r);
            KIT.due("hits of a", x.hits(3, 0), r + 1);
        }
        KIT.due("hits of w0", x.hits(3, 1), 1);
        KIT.due("hits of w9", x.hits(3, 10), 1);
        KIT.due("hits of none", x.hits(3, 11), 0);
        KIT.due("b in any", x.hits(0, 1), 10);
        for (int k : NO_PLACE) {
            KIT.due("hits(3, " + k + ")", x.hits(3, k), 0);
            KIT.due("hits(2, " + k + ")", x.hits(2, k), 0);
        }
        KIT.due("an INDEX without WORDS", x.hits(2, 0), 0);
        for (int r = 0; r < 10; r++) {
            x.drop(r);
            KIT.due("hits of a", x.hits(3, 0), 9 - r);
        }
        KIT.due("no RECORDS", new CatalogQuery().hits(0, 0), 0);
    }

    private static void hitsRefuses() {
        KIT.sentence("0 if there is none. IllegalArgument: not 0 .. 5.");
        CatalogQuery x = subjects("a");
        for (int index : NO_INDEX) {
            KIT.refusedArgument("hits(" + index + ")", x, () -> x.hits(index, 0));
            KIT.dueArgumentFault("hits of none", () -> x.hits(index, -1));
        }
        KIT.due("hits(0)", x.hits(0, 0), 1);
        KIT.due("hits(5)", x.hits(5, 0), 1);
    }

    private static void dueBelow(CatalogQuery x, String line, int due) {
        Kit.type(x, line);
        KIT.due("below(3) of [" + line + "]", x.below(3), due);
        KIT.due("THE LINE stays", x.erase(), line.length());
    }

    private static void comeBefore() {
        KIT.sentence("How many WORDS of an INDEX come before the first WORD (of a text) of THE"
                + " LINE");
        CatalogQuery x = subjects("b bb d 5");
        dueBelow(x, "0", 0);
        dueBelow(x, "5", 0);
        dueBelow(x, "50", 1);
        dueBelow(x, "a", 1);
        dueBelow(x, "b", 1);
        dueBelow(x, "B", 1);
        dueBelow(x, "ba", 2);
        dueBelow(x, "bb", 2);
        dueBelow(x, "bba", 3);
        dueBelow(x, "d", 3);
        dueBelow(x, "d0", 4);
        dueBelow(x, "z", 4);
        dueBelow(x, "  (\"D\" b", 3);
        dueBelow(x, "*b", 1);
        dueBelow(x, "b*z", 1);
        dueBelow(x, "b?", 1);
        dueBelow(x, "? d", 3);
        dueBelow(x, "\u00e9d\u00e9", 3);
        dueBelow(x, " ".repeat(99) + "d", 3);
        dueBelow(x, "b" + "b".repeat(99), 3);
        dueBelow(x, "title = b", 4);
        KIT.due("of no RECORDS", new CatalogQuery().below(0), 0);
        Kit.type(x, "z");
        KIT.due("an INDEX without WORDS", x.below(2), 0);
        KIT.due("id", x.below(5), 1);
        x.drop(0);
        KIT.due("a RECORD that is gone", x.below(3), 0);
    }

    private static void allComeBefore() {
        KIT.sentence("all, if it has none.");
        CatalogQuery x = subjects("b bb d 5");
        dueBelow(x, "", 4);
        dueBelow(x, " ", 4);
        dueBelow(x, "*", 4);
        dueBelow(x, "?*\"(/<=>)\u00e9\u007f", 4);
        dueBelow(x, " ".repeat(100), 4);
        KIT.due("all of id", x.below(5), 1);
        KIT.due("all of none", x.below(2), 0);
        KIT.due("all of no RECORDS", new CatalogQuery().below(3), 0);
    }

    private static void belowRefuses() {
        KIT.sentence("all, if it has none. IllegalArgument: not 0 .. 5.");
        CatalogQuery x = subjects("a");
        Kit.type(x, "z");
        for (int index : NO_INDEX) {
            KIT.refusedArgument("below(" + index + ")", x, () -> x.below(index));
            KIT.dueArgumentFault("below of none", () -> new CatalogQuery().below(index));
        }
        KIT.due("below(0)", x.below(0), 1);
        KIT.due("below(5)", x.below(5), 1);
    }
}
