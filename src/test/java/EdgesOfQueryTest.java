/** Promises 8 and 9 with the QUERY of 'Terms', sentence by sentence: what can be read, and not. */
public final class EdgesOfQueryTest {
    private static final Kit KIT = new Kit("EdgesOfQueryTest");
    private static final String BUT = " \"()/<=>";

    public static void main(String[] args) {
        blanks();
        joinedClauses();
        sortby();
        brackets();
        clauses();
        quotedTerms();
        names();
        relations();
        largeLetters();
        noNames();
        relationBehindName();
        signPlaces();
        unknownIndexes();
        relationsOfDates();
        firstFromTheLeft();
        searchAsks();
        placeOfTheLast();
        KIT.end();
    }

    private static void due(String line, String answer) {
        CatalogQuery x = new CatalogQuery();
        Kit.load(x, Kit.marc("001k", "24500$afox$bany all adj exact", "26000$c1990",
                "50000$atitle date 5"));
        KIT.due("[" + line + "]", Kit.asked(x, line), answer);
        KIT.due("THE LINE stays", x.erase(), line.length());
    }

    private static void reads(String... lines) {
        for (String line : lines) {
            due(line, "0");
        }
    }

    private static void sign(String line, int place) {
        due(line, "-2@" + place);
    }

    private static void blanks() {
        KIT.sentence("blanks stand between WORDS and signs, as many as you like.");
        reads("fox", " fox", "fox ", "     fox     ", "title=fox", "title = fox",
                "  title   =   fox  ", "title=\"fox\"", "title any\"fox\"", "(fox)", " ( fox ) ",
                "(fox)or(fox)", "(  fox  )  or  (  fox  )", "\"fox\"or\"fox\"", "\"x\"or fox",
                "fox sortby title/descending", "fox  sortby  title  /  descending  ",
                "date>=1990", "date  >=  1990", "(fox)sortby title", "\"fox\"sortby title");
        sign("date > = 1990", 7);
        sign("title = = fox", 8);
        sign("foxor fox", 6);
        sign("title anyfox", 6);
        sign("fox \u0009", 4);
        sign("fox \u00a0or fox", 4);
        sign("fox\u0009or fox \u0009or fox", 7);
    }

    /** Twenty-five CLAUSES are the most that go into a hundred characters. */
    private static void joinedClauses() {
        KIT.sentence("QUERY: a CLAUSE, then any of and, or, not with a CLAUSE behind, from the left"
                + " on");
        sign("", 0);
        sign(" ", 1);
        reads("fox", "fox and fox", "x or fox", "fox not x");
        reads("\"\"or".repeat(23) + "\"\"or fox");
        due("\"\"or".repeat(24) + "\"\"", "");
        reads("fox" + " or\"\"".repeat(19));
        due("fox and fox" + " not fox".repeat(11), "");
        reads("fox not fox or fox", "x and fox or fox", "fox or x and fox");
        due("fox or fox not fox", "");
        due("fox or x and x", "");
        sign("and fox", 0);
        sign("fox and", 7);
        sign("fox and or fox", 8);
        sign("fox fox", 4);
        sign("fox not not fox", 8);
    }

    private static void sortby() {
        KIT.sentence("then perhaps sortby and an INDEX's name, perhaps / and descending behind.");
        for (String index : new String[] {"any", "title", "author", "subject", "date", "id"}) {
            reads("fox sortby " + index, "fox sortby " + index + "/descending");
        }
        sign("sortby title", 0);
        sign("fox sortby", 10);
        sign("fox sortby ", 11);
        sign("fox sortby /", 11);
        sign("fox sortby =", 11);
        sign("fox sortby (title)", 11);
        sign("fox sortby \"title\"", 11);
        sign("fox sortby title /", 18);
        sign("fox sortby title / ", 19);
        sign("fox sortby title/ascending", 17);
        sign("fox sortby title//descending", 17);
        sign("fox sortby title descending", 17);
        sign("fox sortby title/descending/", 27);
        sign("fox sortby title/descending/descending", 27);
        sign("fox sortby title/descending or fox", 28);
        sign("fox sortby title or fox", 17);
        sign("fox sortby title date", 17);
        sign("fox sortby title sortby title", 17);
        sign("fox sortby any any", 15);
        sign("fox/descending", 3);
        sign("(fox sortby title)", 5);
        sign("(fox sortby title", 5);
    }

    private static void brackets() {
        KIT.sentence("(at most six within one another; another ( cannot be there)");
        for (int deep = 0; deep <= 6; deep++) {
            reads("(".repeat(deep) + "fox" + ")".repeat(deep));
        }
        for (int deep = 7; deep <= 9; deep++) {
            sign("(".repeat(deep) + "fox" + ")".repeat(deep), 6);
        }
        reads("((((((fox)))))) and ((((((fox))))))", "((((((fox) or x) or (x)) or x)))",
                "((((((fox)or(x)or(x)))))) or (x)");
        sign("((((((fox) or ((x)))))))", 15);
        sign("((((((fox or (x)))))))", 13);
        sign("()", 1);
        sign("(", 1);
        sign(")", 0);
        sign("(fox", 4);
        sign("((fox)", 6);
        sign("fox)", 3);
        sign("((((((fox)))))))", 15);
        sign("(fox)(fox)", 5);
        sign("fox(fox)", 3);
        sign("title=(fox)", 6);
        sign("(title)=fox", 7);
        sign("(title=)fox", 7);
        sign("(fox or)", 7);
    }

    private static void clauses() {
        KIT.sentence("or a TERM; or a NAME, a RELATION, a TERM. TERM: a NAME,");
        reads("fox", "\"fox\"", "title = fox", "title = \"fox\"", "any = title", "title");
        sign("title fox", 6);
        sign("title \"fox\"", 6);
        sign("= fox", 0);
        sign("title =", 7);
        sign("\"title\" = fox", 8);
        sign("title = fox = fox", 12);
        sign("title = title = fox", 14);
        sign("title = fox fox", 12);
        sign("title = fox \"fox\"", 12);
        sign("title = /", 8);
        sign("title = )", 8);
        sign("title = <", 8);
    }

    private static void quotedTerms() {
        KIT.sentence("or any characters but \" between two \".");
        reads("\"fox\"", "\"fox \"", "\" fox\"", "\"(fox)\"", "\"/<=>fox\"", "\"FOX!\"",
                "title = \"fox\"", "fox or \"\"", "\"\" or fox");
        due("\"\"", "");
        due("\" \"", "");
        due("title = \"\"", "");
        due("\"and or not sortby descending\"", "");
        for (int c = 1; c < 256; c++) {
            if (c != '"') {
                due("\"" + (char) c + "\" not fox", "");
            }
        }
        sign("\"", 1);
        sign("\"fox", 4);
        sign("title = \"", 9);
        sign("title = \"fox ", 13);
        sign("\"fox\"\"", 5);
        sign("\"\"\"", 2);
        sign("fox \"", 4);
    }

    private static void names() {
        KIT.sentence("NAME: characters but blanks and \" ( ) / < = >.");
        for (int c = 1; c < 256; c++) {
            if (BUT.indexOf(c) < 0) {
                due("x" + (char) c + "x not fox", "");
                due("fox or " + (char) c, "0");
                due((char) c + "y = fox", "-3@0");
            }
        }
        sign("fox/fox", 3);
        sign("fox\"fox\"", 3);
        sign("fox)fox", 3);
        sign("fox=", 4);
        sign("fox<", 4);
        sign("fox>", 4);
    }

    private static void relations() {
        KIT.sentence("RELATION: = == < > <= >= any all adj exact.");
        reads("title = fox", "title == fox", "date < 1991", "date > 1989", "date <= 1990",
                "date >= 1990", "title any fox", "title all fox", "title adj fox",
                "title exact fox");
        due("date <= 1989", "");
        due("date >= 1991", "");
        due("date < 1990", "");
        due("date > 1990", "");
        sign("title === fox", 8);
        sign("date <> 1990", 6);
        sign("date >< 1990", 6);
        sign("date => 1990", 6);
        sign("date =< 1990", 6);
        sign("date <== 1990", 7);
        sign("date >>= 1990", 6);
        sign("title within fox", 6);
        sign("title an fox", 6);
        sign("title exactly fox", 6);
        sign("= fox", 0);
        sign("title =", 7);
    }

    private static void largeLetters() {
        KIT.sentence("Large letters are as small ones, in names, relations, and, or, not, sortby,"
                + " descending");
        reads("TITLE ANY FOX", "Title All Fox", "tITLE aDJ fOX", "title EXACT fox", "DATE >= 1990",
                "ANY any ANY", "ID = K", "fox AND fox", "x OR fox", "fox NOT x", "fox oR x",
                "fox SORTBY TITLE", "fox SortBy Title / DESCENDING", "fox sortbY any/Descending");
        due("author = FOX", "");
        due("SUBJECT = fox", "");
        sign("AND", 0);
        sign("fox Descending", 4);
        due("t\u0049tle = fox", "0");
        due("TITL\u00c5 = fox", "-3@0");
        sign("fox \u00c1nd fox", 4);
        sign("fox [nd fox", 4);
    }

    private static void noNames() {
        KIT.sentence("these last five are no NAMES.");
        for (String word : new String[] {"and", "or", "not", "sortby", "descending"}) {
            String large = word.toUpperCase(java.util.Locale.ROOT);
            for (String one : new String[] {word, large}) {
                sign(one, 0);
                sign(one + " = fox", 0);
                sign("title = " + one, 8);
                sign("title any " + one, 10);
                sign("fox or " + one, 7);
                sign("(" + one + ")", 1);
                sign("fox sortby " + one, 11);
                reads("\"" + one + "\" or fox", "fox or " + one + "s", "fox or x" + one);
            }
        }
    }

    private static void relationBehindName() {
        KIT.sentence("(A RELATION behind a NAME is always one: title any is no QUERY, title any any"
                + " is.)");
        for (String one : new String[] {"any", "all", "adj", "exact"}) {
            sign("title " + one, 7 + one.length() - 1);
            reads("fox or " + one, one + " or fox", "(" + one + ") or fox", "fox or title " + one
                    + " any");
            sign("any " + one, 4 + one.length());
            sign("title " + one + " any any", 11 + one.length());
            sign("\"title\" " + one + " fox", 8);
            sign("(title) " + one + " fox", 8);
            sign("title = " + one + " fox", 9 + one.length());
            sign("title = fox " + one, 12);
        }
        reads("title any any", "any any any", "any all all", "any adj adj",
                "any exact title or fox");
        due("all any any", "-3@0");
        due("exact exact exact", "-3@0");
        sign("any any", 7);
        sign("title any or fox", 10);
    }

    private static void signPlaces() {
        KIT.sentence("SIGN: the first place at which it cannot go on (the first character of a NAME"
                + " that cannot be there; THE LINE's length, if it ends too soon).");
        sign("fox    foxes", 7);
        sign("fox foxes and", 4);
        sign("  descending", 2);
        sign("fox and   ", 10);
        sign("title = fox x = 1", 12);
        sign("fox or (x = 1 y", 14);
        sign("fox or (x = 1", 13);
        sign("fox or (x = 1   ", 16);
        sign("fox \"x", 4);
        sign("fox or \"x", 9);
        sign("((fox", 5);
        sign("fox ) or )", 4);
        sign("x = 1 or", 8);
        sign("title < 5 and", 13);
        sign("fox sortby x y", 13);
        sign("fox sortby \"x", 11);
        sign(" ".repeat(100), 100);
    }

    private static void unknownIndexes() {
        KIT.sentence("INDEX, at a NAME that is none of those INDEXES");
        for (String name : new String[] {"titl", "titles", "x", "ids", "i", "an", "anyx", "dates",
            "*", "title*", "\u00e9", "all", "adj", "5", "0"}) {
            due(name + " = fox", "-3@0");
            due("  " + name + " any fox", "-3@2");
            due("fox or " + name + "=fox", "-3@7");
            due("((" + name + " == fox))", "-3@2");
            due("fox sortby " + name, "-3@11");
            due("fox sortby " + name + "/descending", "-3@11");
            due(name + " < 5", "-3@0");
        }
        reads("fox sortby any", "fox sortby id");
    }

    private static void relationsOfDates() {
        KIT.sentence("RELATION, at one of < > <= >= with another INDEX than date.");
        for (String index : new String[] {"any", "title", "author", "subject", "id"}) {
            for (String sign : new String[] {"<", ">", "<=", ">="}) {
                due(index + sign + "5", "-4@" + index.length());
                due(index + "  " + sign + "\"\"", "-4@" + (index.length() + 2));
                due("(fox or " + index + " " + sign + " 5)", "-4@" + (9 + index.length()));
            }
            due(index + " = zz", "");
            due(index + " == zz", "");
        }
        reads("date < 1991", "DATE<=1990", "date>1989", "Date >= 1990");
    }

    private static void firstFromTheLeft() {
        KIT.sentence("Else the first that shows from the left of");
        due("x = 1 or y = 2", "-3@0");
        due("title < 5 or id > 5", "-4@6");
        due("x = 1 or title < 5", "-3@0");
        due("title < 5 or x = 1", "-4@6");
        due("x < 5 or title < 5", "-3@0");
        due("(title > 5) sortby x", "-4@7");
        due("x = 5 sortby y", "-3@0");
        due("fox or (fox or (any <= 5)) and x any y", "-4@20");
        due("date < 5 or id < 5 or x = 1", "-4@15");
        sign("x = 1 or title < 5 or", 21);
        sign("title < 5 sortby x /", 20);
    }

    private static void searchAsks() {
        KIT.sentence("THE LINE is asked (it stays): how many RECORDS satisfy it, which are found"
                + " then; or SIGN, INDEX, RELATION.");
        CatalogQuery x = new CatalogQuery();
        KIT.due("search() of an empty LINE", x.search(), CatalogQuery.SIGN);
        KIT.due("search() without RECORDS", Kit.search(x, "id = *"), 0);
        for (int r = 0; r < 10; r++) {
            Kit.load(x, Kit.marc("001r" + r));
            KIT.due("search() of " + (r + 1), x.search(), r + 1);
            KIT.due("found last", x.found(r), r);
        }
        KIT.due("THE LINE stays", x.erase(), 6);
        KIT.due("search() of what is erased", x.search(), CatalogQuery.SIGN);
        KIT.due("INDEX", Kit.search(x, "x = *"), CatalogQuery.INDEX);
        KIT.due("RELATION", Kit.search(x, "id > *"), CatalogQuery.RELATION);
        KIT.due("RELATION again", x.search(), CatalogQuery.RELATION);
        KIT.due("ten are still found", Kit.foundBy(x), "0 1 2 3 4 5 6 7 8 9");
        KIT.due("none", Kit.search(x, "zzz"), 0);
        KIT.due("none is found", Kit.foundBy(x), "");
    }

    private static void placeOfTheLast() {
        KIT.sentence("The place of the last fault of load or search; NONE if the last of these had"
                + " none, or there was none.");
        CatalogQuery x = new CatalogQuery();
        KIT.due("there was none", x.place(), -1);
        KIT.due("a fault of load", x.load(), CatalogQuery.FORM);
        KIT.due("at 0", x.place(), 0);
        KIT.due("a fault of search", Kit.search(x, "fox and"), CatalogQuery.SIGN);
        KIT.due("at 7", x.place(), 7);
        KIT.due("again", x.place(), 7);
        KIT.due("search of none", Kit.search(x, "fox"), 0);
        KIT.due("it had none", x.place(), -1);
        KIT.due("a fault of search", Kit.search(x, "fox >"), CatalogQuery.SIGN);
        KIT.due("load", Kit.load(x, Kit.marc("001x")), 0);
        KIT.due("it had none", x.place(), -1);
        KIT.due("a fault of load", x.load(), CatalogQuery.TWICE);
        KIT.due("at 37", x.place(), 37);
        KIT.due("search", x.search(), CatalogQuery.SIGN);
        KIT.due("at 5", x.place(), 5);
        KIT.due("a fault of load", x.load(), CatalogQuery.TWICE);
        x.cut(0);
        x.feed(1, 0, 0, 0, 0);
        x.erase();
        x.type(0x61000000, 0, 0, 0, 0);
        x.drop(0);
        x.found(0);
        x.record(0, 0);
        x.octet(0, 0);
        x.words(0);
        x.word(0, 0, 0);
        x.hits(0, 0);
        x.below(0);
        KIT.due("no other call counts", x.place(), 37);
        KIT.dueArgumentFault("feed that throws", () -> x.feed(17, 0, 0, 0, 0));
        KIT.dueArgumentFault("words that throws", () -> x.words(6));
        KIT.due("nor does one that throws", x.place(), 37);
    }
}
