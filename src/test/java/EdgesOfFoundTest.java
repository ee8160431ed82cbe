import java.util.ArrayList;
import java.util.List;

/** Promises 8 and 10, sentence by sentence: which RECORDS satisfy a QUERY, and in which order. */
public final class EdgesOfFoundTest {
    private static final Kit KIT = new Kit("EdgesOfFoundTest");
    private static final String ALL = "0 1 2 3 4 5 6 7 8 9";

    public static void main(String[] args) {
        signsInTerms();
        someOrEach();
        oneBehindTheOther();
        allItsWords();
        withoutWords();
        termAlone();
        datesCompared();
        joins();
        joinsInBrackets();
        byNumbers();
        byWords();
        byDates();
        thoseWithout();
        descending();
        found();
        KIT.end();
    }

    /** RECORDS with a title each (none: "-"), and then pairs of a LINE and what it finds. */
    private static void titles(String titles, String... linesAndFound) {
        List<String> fields = new ArrayList<>();
        for (String title : titles.split("\\|", -1)) {
            fields.add(title.equals("-") ? "500  $a" : "245  $a" + title);
        }
        records(fields, linesAndFound);
    }

    private static void records(List<String> fields, String... linesAndFound) {
        for (int i = 0; i < linesAndFound.length; i += 2) {
            CatalogQuery x = new CatalogQuery();
            for (int r = 0; r < fields.size(); r++) {
                KIT.due("load", Kit.load(x, Kit.marc("001r" + r, fields.get(r))), r);
            }
            KIT.due("[" + linesAndFound[i] + "]", Kit.asked(x, linesAndFound[i]),
                    linesAndFound[i + 1]);
        }
    }

    private static void signsInTerms() {
        KIT.sentence("A TERM's WORDS are as those of a text, but * (any characters, or none) and ?"
                + " (any one) belong to them.");
        titles("a|ab|abc|b||*|a*b|?", "*", "0 1 2 3 6", "?", "0 3 6", "??", "1", "???", "2",
                "????", "", "a*", "0 1 2 6", "a?", "1", "a??", "2", "*a", "0 6", "*b", "1 3 6",
                "?b", "1", "a*c", "2", "a?c", "2", "a*b", "1", "*a*", "0 1 2 6", "**", "0 1 2 3 6",
                "*?", "0 1 2 3 6", "?*?", "1 2", "a***b", "1", "*ab*", "1 2", "a*b*c*", "2",
                "*a*b*c*", "2", "*?*?*?*", "2", "*?*?*?*?*", "", "ab*c", "2", "abc*", "2",
                "*abc", "2", "*abcd", "", "abc?", "", "?abc", "", "\"a b\"", "6", "\"? ?\"", "6",
                "\"* * *\"", "", "a-b", "6", "A*C", "2", "\"a* b*\"", "6");
        titles("a".repeat(100) + "b|" + "a".repeat(340), "a".repeat(99) + "*", "0 1",
                "*".repeat(100), "0 1", "a*".repeat(50), "0 1", "*" + "a*".repeat(48) + "b", "0",
                "?".repeat(100), "", "?".repeat(99) + "*", "0 1", "*" + "?".repeat(98) + "b", "0");
    }

    private static void someOrEach() {
        KIT.sentence("any: if one of them matches a WORD of its TEXTS in that INDEX; all: if each"
                + " does");
        titles("a b$bc|a|c b|d||-", "title any a", "0 1", "title any \"a c\"", "0 1 2",
                "title any \"z y\"", "", "title any \"z d\"", "3", "title any \"d z\"", "3",
                "title all a", "0 1", "title all \"a c\"", "0", "title all \"c a b\"", "0",
                "title all \"b c\"", "0 2", "title all \"a z\"", "", "title all \"z a\"", "",
                "title all \"a a a\"", "0 1", "title any *", "0 1 2 3", "title all \"* * *\"",
                "0 1 2 3", "title any \"aa ab\"", "", "author any a", "", "author all a", "",
                "any any \"c d\"", "0 2 3", "any all \"c b\"", "0 2");
        titles("z " + "a ".repeat(20) + "b", "title all \"" + "a ".repeat(44) + "\"", "0",
                "title all \"" + "a ".repeat(43) + "q\"", "", "title any \"" + "q ".repeat(43)
                + "b\"", "0");
    }

    private static void oneBehindTheOther() {
        KIT.sentence("adj, =: if in one TEXT they match WORDS one behind the other");
        String titles = "a b c|b a c|a$bb|a|a a b||a, B!";
        for (String one : new String[] {"adj", "="}) {
            String title = "title " + one + " ";
            titles(titles, title + "a", "0 1 2 3 4 6", title + "\"a b\"", "0 4 6",
                    title + "\"b c\"", "0", title + "\"a c\"", "1", title + "\"a b c\"", "0",
                    title + "\"a b c d\"", "", title + "\"z a b\"", "", title + "\"a a\"", "4",
                    title + "\"a a b\"", "4", title + "\"c\"", "0 1", title + "\"* *\"",
                    "0 1 4 6", title + "\"* * *\"", "0 1 4", title + "\"a*\"", "0 1 2 3 4 6",
                    title + "\"b a\"", "1");
        }
    }

    private static void allItsWords() {
        KIT.sentence("exact, ==: if in one TEXT all its WORDS, as many.");
        String titles = "a b c|a b|a$bb|a|a b a b||--";
        for (String one : new String[] {"exact", "=="}) {
            String title = "title " + one + " ";
            titles(titles, title + "a", "2 3", title + "\"a b\"", "1", title + "\"a b c\"", "0",
                    title + "\"b c\"", "", title + "b", "2", title + "\"a b a\"", "",
                    title + "\"a b a b\"", "4", title + "\"a b c d\"", "", title + "\"* *\"", "1",
                    title + "*", "2 3", title + "\"* * * *\"", "4", title + "\"b a\"", "");
        }
    }

    private static void withoutWords() {
        KIT.sentence("Without WORDS: none.");
        for (String relation : new String[] {"any", "all", "adj", "=", "exact", "=="}) {
            titles("a|--||-", "title " + relation + " \"\"", "", "title " + relation + " \" \"", "",
                    "title " + relation + " --", "", "any " + relation + " \"\u00e9\"", "",
                    "id=* not title " + relation + " \"\"", "0 1 2 3");
        }
        titles("a|--||-", "\"\"", "", "-", "", "a or \"\"", "0", "a and \"\"", "", "a not \"\"",
                "0");
    }

    private static void termAlone() {
        KIT.sentence("A TERM alone: any, =.");
        titles("a b|b a$ba c|r5", "\"a b\"", "0", "\"a c\"", "1", "a-b", "0", "a", "0 1",
                "\"a a\"", "", "r5", "2", "r0", "", "(\"b a\")", "1", "any = \"b a\"", "1");
    }

    private static void datesCompared() {
        KIT.sentence("< > <= >=: its DATE is below, and so on, the TERM's first four digits that"
                + " stand together, as a number; none without one of them.");
        List<String> dates = List.of("260  $c1989", "260  $c1990", "260  $c1991", "260  $c0000",
                "260  $c9999", "260  $cnone", "245  $a1990", "260  $c199", "260  $c19901");
        records(dates, "date < 1990", "0 3", "date <= 1990", "0 1 3 8", "date > 1990", "2 4",
                "date >= 1990", "1 2 4 8", "date < 0000", "", "date <= 0000", "3",
                "date > 0000", "0 1 2 4 8", "date >= 0000", "0 1 2 3 4 8", "date > 9999", "",
                "date >= 9999", "4", "date < 9999", "0 1 2 3 8", "date <= 9999", "0 1 2 3 4 8",
                "date < 199", "", "date <= 199", "", "date > 199", "", "date >= 199", "",
                "date >= x", "", "date < \"\"", "", "date >= \"19 90\"", "", "date > 19*90", "",
                "date > 199?", "", "date >= 19905", "1 2 4 8", "date > 19894", "1 2 4 8",
                "date >= \"199 9999 1990\"", "4", "date > c1990x", "2 4",
                "id=* not date >= 0", "0 1 2 3 4 5 6 7 8");
    }

    private static void joins() {
        KIT.sentence("and: both, or: one or both, not: the first and not the second.");
        titles("a|b|a b|c", "a and b", "2", "b and a", "2", "a or b", "0 1 2", "b or a", "0 1 2",
                "a not b", "0", "b not a", "1", "a and a", "0 2", "a or a", "0 2", "a not a", "",
                "a and z", "", "a or z", "0 2", "a not z", "0 2", "z and a", "", "z or a", "0 2",
                "z not a", "", "id=* not z", "0 1 2 3", "id=* not id=*", "");
    }

    private static void joinsInBrackets() {
        KIT.sentence("CLAUSE: ( QUERY without sortby ) (at most six within one another");
        titles("a|b|a b|c|a c", "a not (b or c)", "0", "(a not b) or c", "0 3 4", "a not b or c",
                "0 3 4", "a or (b not b)", "0 2 4", "(a or b) not b", "0 4", "a or b not b", "0 4",
                "a not (a not b)", "2", "(a) and (b)", "2", "(a or b) and (b or c)", "1 2 4",
                "a or b and b or c", "1 2 3 4", "(c not (c and a)) or (b not (b and a))", "1 3",
                "a not (a not (a not (a not (a not (a not (b))))))", "2",
                "((((((a) and b) or c) not a) or b) not b)", "3",
                "(a and (a and (a and (a and (a and (b))))))", "2");
    }

    private static void byNumbers() {
        KIT.sentence("Without sortby RECORDS come by numbers.");
        titles("j|i|h|g|f|e|d|c|b|a", "id=*", ALL, "id any \"r9 r0 r5\"", "0 5 9", "id=r9 or id=r0",
                "0 9", "id=r7", "7");
        CatalogQuery x = new CatalogQuery();
        for (int r = 0; r < 3; r++) {
            Kit.load(x, Kit.marc("001r" + r));
        }
        x.drop(0);
        Kit.load(x, Kit.marc("001z"));
        KIT.due("one that came later", Kit.asked(x, "id=*"), "0 1 2");
    }

    private static void byWords() {
        KIT.sentence("With it by their first TEXT in that INDEX, WORD by WORD (characters' numbers;"
                + " a beginning before the longer one)");
        titles("b|ab|a z|a|0|9|z|ab c|aa z|A Y", "id=* sortby title", "4 5 3 9 2 8 1 7 0 6");
        titles("a 9$ba|a 10|a b|a-a|(a)|a  ", "id=* sortby title", "4 5 1 0 3 2");
        titles("b$ba|a$bc", "id=* sortby title", "1 0", "id=* sortby any", "1 0");
        records(List.of("24504$aThe b", "24502$aA c", "245 9$ashort$bz", "245  $aa"),
                "id=* sortby title", "2 3 0 1", "id=* sortby any", "3 1 2 0");
        titles("||a|-", "id=* sortby title", "0 1 2 3", "id=* sortby id", "0 1 2 3",
                "id=r2 sortby title", "2", "zz sortby title", "");
    }

    private static void byDates() {
        KIT.sentence("date by DATES");
        records(List.of("260  $c2000", "260  $cz 1999", "260  $c0000", "260  $c9999",
                "260  $c19999", "260  $c1$c1000"), "id=* sortby date", "2 5 1 4 0 3",
                "id=* sortby date/descending", "3 0 1 4 5 2");
    }

    private static void thoseWithout() {
        KIT.sentence("those without come last; the same by numbers");
        titles("-|b|-|a|b|A", "id=* sortby title", "3 5 1 4 0 2", "id=* sortby author",
                "0 1 2 3 4 5", "id any \"r0 r1\" sortby title", "1 0");
        titles("-|-|a", "id=* sortby title", "2 0 1");
        titles("-|--|a|", "id=* sortby title", "1 3 2 0");
        records(List.of("260  $cnone", "260  $c1990", "500  $a1", "260  $c0000", "260  $c1990"),
                "id=* sortby date", "3 1 4 0 2");
    }

    private static void descending() {
        KIT.sentence("descending the other way round, but those without still last, and the same"
                + " still by numbers.");
        String down = "id=* sortby title/descending";
        titles("-|b|-|a|b|A|ab", down, "1 4 6 3 5 0 2", "id=* sortby author/descending",
                "0 1 2 3 4 5 6");
        titles("-|--|a|", down, "2 1 3 0");
        titles("a|a|a|a|a|a|a|a|a|a", down, ALL, "id=* sortby title", ALL);
        titles("a|b|c|d|e|f|g|h|i|j", down, "9 8 7 6 5 4 3 2 1 0");
        titles("-|-|-|-|-|-|-|-|-|-", down, ALL, "id=* sortby date/descending", ALL);
        records(List.of("260  $cnone", "260  $c1990", "500  $a1", "260  $c0000", "260  $c1990"),
                "id=* sortby date/descending", "1 4 3 0 2");
        CatalogQuery x = new CatalogQuery();
        Kit.load(x, Kit.marc("001r0", "245  $ab"));
        Kit.load(x, Kit.marc("001r1", "245  $aa"));
        KIT.due("descending", Kit.asked(x, down), "0 1");
        KIT.due("not descending behind it", Kit.asked(x, "id=* sortby title"), "1 0");
        KIT.due("not sorted behind it", Kit.asked(x, "id=*"), "0 1");
        KIT.due("descending again", Kit.asked(x, "id=* sortby id/descending"), "1 0");
        KIT.due("not sorted again", Kit.asked(x, "id=*"), "0 1");
    }

    private static void found() {
        KIT.sentence("The number of RECORD k of those that were found last, from 0 on; NONE if"
                + " there is none.");
        CatalogQuery x = new CatalogQuery();
        KIT.due("found(0) before a search", x.found(0), -1);
        for (int r = 0; r < 10; r++) {
            Kit.load(x, Kit.marc("001r" + r, "245  $aw" + r));
        }
        KIT.due("found(0) before a search", x.found(0), -1);
        Kit.search(x, "id=* sortby title/descending");
        for (int k = 0; k < 10; k++) {
            KIT.due("found(" + k + ")", x.found(k), 9 - k);
        }
        for (int k : new int[] {-1, 10, 11, Integer.MIN_VALUE, Integer.MAX_VALUE}) {
            KIT.due("found(" + k + ") of ten", x.found(k), -1);
        }
        Kit.search(x, "w3 or w7");
        KIT.due("found(1) of two", x.found(1), 7);
        KIT.due("found(2) of two", x.found(2), -1);
        Kit.search(x, "zz");
        KIT.due("found(0) of none", x.found(0), -1);
        KIT.due("found(-1) of none", x.found(-1), -1);
    }
}
