/** Promises 8 and 10: which RECORDS satisfy THE LINE, and in which order they come. */
public final class SearchTest {
    private static final Kit KIT = new Kit("SearchTest");

    public static void main(String[] args) {
        relations();
        signsThatStandForOthers();
        indexes();
        dates();
        joins();
        sortedByTexts();
        sortedByDates();
        KIT.end();
    }

    private static CatalogQuery loaded(String[][] records) {
        CatalogQuery x = new CatalogQuery();
        for (int r = 0; r < records.length; r++) {
            String[] fields = new String[records[r].length + 1];
            fields[0] = "001r" + r;
            System.arraycopy(records[r], 0, fields, 1, records[r].length);
            KIT.due("load", Kit.load(x, Kit.marc(fields)), r);
        }
        return x;
    }

    private static String[][] records(String[]... records) {
        return records;
    }

    private static String[] of(String... fields) {
        return fields;
    }

    private static void due(String[][] all, String... linesAndFound) {
        for (int i = 0; i < linesAndFound.length; i += 2) {
            String line = linesAndFound[i];
            KIT.due("[" + line + "]", Kit.asked(loaded(all), line), linesAndFound[i + 1]);
        }
    }

    private static void relations() {
        String[][] all = records(of("245  $aThe red fox$ba tail"), of("245  $aRED, fox; red!"),
                of("245  $afox$bred"), of("245  $afoxes"), of("245  $a--"), of());
        due(all, "title any \"red fox\"", "0 1 2", "title any \"dog red\"", "0 1 2",
                "title any \"dog cat\"", "", "title all \"red fox\"", "0 1 2",
                "title all \"fox red tail\"", "0", "title all \"fox dog\"", "",
                "title adj \"red fox\"", "0 1", "title = \"red fox\"", "0 1",
                "title = \"fox red\"", "1", "title adj \"the fox\"", "", "title = \"a tail\"", "0",
                "title = \"fox a\"", "", "title = \"red fox red fox\"", "",
                "title exact \"red fox\"", "", "title == \"red-FOX/red\"", "1",
                "title == fox", "2", "title == red", "2", "title == \"the red fox\"", "0",
                "title exact \"fox red\"", "", "title = foxe", "", "title = fo", "",
                "title = \"\"", "", "title == \"\"", "", "title any \"--\"", "",
                "title all \"\"", "", "--", "", "red", "0 1 2", "\"red fox\"", "0 1",
                "\"fox red\"", "1", "title all \"fox fox fox\"", "0 1 2",
                "title = \"fox fox\"", "");
    }

    private static void signsThatStandForOthers() {
        String[][] all = records(of("245  $afox"), of("245  $afoxes 1987"), of("245  $aof"),
                of("245  $aabab"), of("245  $aaab aab"));
        due(all, "fo*", "0 1", "fo?", "0", "fox*", "0 1", "fox?", "", "fox??", "1", "*",
                "0 1 2 3 4", "title == *", "0 2 3", "title == \"* *\"", "1 4",
                "title == \"* * *\"", "",
                "?", "", "??", "2", "*o*", "0 1 2", "*f", "2", "f*", "0 1", "f*s", "1",
                "f*e?", "1", "**", "0 1 2 3 4", "?*", "0 1 2 3 4", "*?", "0 1 2 3 4", "f?x*", "0 1",
                "19*", "1", "1?8?", "1", "19?", "", "a*b", "3 4", "*ab", "3 4", "ab*ab", "3",
                "a*a*b", "3 4", "*a*a*a*", "", "a?b*", "4", "\"aa* *b\"", "4",
                "title all \"f* 1*7\"", "1", "title any \"zz f?x\"", "0", "title = \"fo-*\"", "",
                "title = \"fox* ????\"", "1", "FO*", "0 1", "fox*es", "1", "fo*xes*", "1",
                "???", "0 4", "????", "1 3", "*x*s", "1", "f*x", "0");
        due(records(of("245  $afo*x ?ab")), "fo", "0", "x", "0", "\"fo x ab\"", "0", "fox", "",
                "fo*x", "", "ab", "0", "?ab", "", "title == \"* * *\"", "0");
    }

    private static void indexes() {
        String[][] all = records(
                of("10014$aSmith$bnone", "24514$aThe fox$bThe tail$cBy", "2602 $aParis$c1987$c88"),
                of("70014$aThe Jones", "65014$aFoxes$x1987", "24519$ashort$along title here"),
                of("245 2$aA b", "2451 $aA c", "24530$aA d", "246 2$aA e"),
                of("005smith", "500  $aThe end$5lib$0id"));
        due(all, "author = smith", "0", "any = smith", "0", "author = none", "", "none", "0",
                "author = jones", "1", "author = the", "1", "subject = foxes", "1",
                "subject = 1987", "", "any = 1987", "0 1", "date = 1987", "0", "date = 88", "0",
                "date = paris", "", "title = by", "", "by", "0", "title == fox", "0",
                "title = the", "0", "title == \"he tail\"", "", "title = tail", "0",
                "title == \"the tail\"", "0", "any == \"the fox\"", "0", "any = fox", "0",
                "title = short", "", "any = short", "1", "title == \"e here\"", "1",
                "any == \"long title here\"", "1", "title == b", "2", "title == \"A c\"", "2",
                "title == \"a d\"", "2", "title = e", "1", "any == \"a e\"", "2", "id = r0", "0",
                "id any \"r1 r3\"", "1 3", "any = r0", "", "smith", "0", "lib", "3", "id", "3",
                "any == \"the end\"", "3", "id == R2", "2", "any == \"the jones\"", "1");
    }

    private static void dates() {
        String[][] all = records(of("260  $c1987"), of("260  $c[1990-1991]"), of("260  $cnone"),
                of(), of("260  $c0000"), of("260  $c12345"));
        due(all, "date < 1990", "0 4 5", "date <= 1990", "0 1 4 5", "date > 1987", "1",
                "date >= 1987", "0 1", "date > 1990", "", "date < 19901", "0 4 5",
                "date > \"about 1234 or 1989\"", "0 1", "date < 199", "", "date >= x", "",
                "date >= \"\"", "", "date > \"19 90\"", "", "date < \"12 9999\"", "0 1 4 5",
                "date < 9999", "0 1 4 5", "date >= 0000", "0 1 4 5", "date <= 0000", "4",
                "date < 0000", "", "date > 12*34", "", "date > 1*1234", "0 1",
                "date = 1991", "1", "date any \"1987 1990\"", "0 1", "date == 12345", "5",
                "date = 1234", "", "date == none", "2", "date > x1987y", "1");
    }

    private static void joins() {
        String[][] all = records(of("245  $aa b"), of("245  $aa c"), of("245  $ab c"),
                of("245  $aa b c"));
        due(all, "a and b", "0 3", "a or b", "0 1 2 3", "a not b", "1", "b not a", "2",
                "a and b and c", "3", "a or b and c", "1 2 3", "a or (b and c)", "0 1 2 3",
                "b and c or a", "0 1 2 3", "a not b or c", "1 2 3", "a not (b or c)", "",
                "c and (a or b) not (a and b)", "1 2", "a and b not c", "0",
                "a not c or b not a", "2", "(a not c) or (b not a)", "0 2", "c not zz", "1 2 3",
                "zz not c", "", "zz or c", "1 2 3", "zz and c", "",
                "(a and (b and (c and (a and (b and (c))))))", "3",
                "((a or b) and (b or c)) not (c)", "0", "a and b or c and b", "0 2 3",
                "title==\"a b\"or title==\"b c\"", "0 2");
        CatalogQuery x = loaded(all);
        KIT.due("how many", Kit.search(x, "a or b"), 4);
        KIT.due("how many", Kit.search(x, "a and b"), 2);
        KIT.due("found(1)", x.found(1), 3);
        KIT.due("found(2)", x.found(2), -1);
    }

    private static void sortedByTexts() {
        String[][] all = records(of("24504$aThe fox"), of("245  $aa fox$baaa"), of(),
                of("245  $aA"), of("245  $afox red"), of("245  $b10 foxes"), of("245  $aFOX."),
                of("650  $azz"), of("245  $a--$bzzz"), of("24509$ashort"));
        String by = "id any * sortby ";
        due(all, by + "title", "8 9 5 3 1 0 6 4 2 7", by + "title/descending",
                "4 0 6 1 3 5 8 9 2 7", by + "any", "8 5 3 1 6 4 9 0 7 2",
                by + "subject", "7 0 1 2 3 4 5 6 8 9", by + "subject/descending",
                "7 0 1 2 3 4 5 6 8 9", by + "id/descending", "9 8 7 6 5 4 3 2 1 0",
                by + "id", "0 1 2 3 4 5 6 7 8 9", by + "author/descending",
                "0 1 2 3 4 5 6 7 8 9", "id any \"r6 r4 r0 r2\" sortby title", "0 6 4 2",
                "id any *", "0 1 2 3 4 5 6 7 8 9", "zzzz sortby title", "");
        wordsBeforeCharacters();
    }

    /** As a whole "ab c" would come before "ab" and "a bc" before "a-bc": WORDS decide. */
    private static void wordsBeforeCharacters() {
        String[][] all = records(of("100  $aabc"), of("100  $aab zz"), of("100  $aab"),
                of("100  $aab, a", "700  $aaa"), of("700  $aa", "100  $azzz"), of("100  $aab-10"),
                of("100  $a  AB"));
        due(all, "id=* sortby author", "4 2 6 5 3 1 0", "id=* sortby author/descending",
                "0 1 3 5 2 6 4");
    }

    private static void sortedByDates() {
        String[][] all = records(of("260  $c1990"), of("260  $cnone"), of("260  $c1987"),
                of(), of("260  $czz 1990"), of("260  $c0900"), of("260  $c19$c1988"));
        due(all, "id=* sortby date", "5 2 6 0 4 1 3", "id=* sortby date/descending",
                "0 4 6 2 5 1 3", "date = zz or date = 1990 sortby date", "0 4",
                "date > 1987 sortby date/descending", "0 4 6");
    }
}
