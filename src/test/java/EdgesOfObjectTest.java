/** Promise 1 and what holds for every call: a new object, its last calls, what is refused. */
public final class EdgesOfObjectTest {
    private static final Kit KIT = new Kit("EdgesOfObjectTest");
    private static final String FOX = Kit.marc("001fox", "24500$aFox", "26000$c1990");
    private static final String DOG = Kit.marc("001dog", "24500$aDog");
    private static final int[] OUTSIDE = {-1, Integer.MIN_VALUE, Integer.MAX_VALUE};

    public static void main(String[] args) {
        newObject();
        lastCalls();
        wrongNumbers();
        refusedCallsChangeNothing();
        faultsChangeNothing();
        KIT.end();
    }

    private static void newObject() {
        KIT.sentence("No RECORDS, no BYTES, an empty LINE, nothing found.");
        for (int r = 0; r < 10; r++) {
            KIT.due("record", new CatalogQuery().record(r, 0), CatalogQuery.NONE);
            KIT.due("drop", new CatalogQuery().drop(r) ? 1 : 0, 0);
        }
        KIT.due("BYTES", new CatalogQuery().feed(0, -1, -1, -1, -1), 0);
        KIT.due("cut(0)", new CatalogQuery().cut(0), 0);
        KIT.due("THE LINE", new CatalogQuery().type(0, 0, 0, 0, 0), 0);
        KIT.due("erase()", new CatalogQuery().erase(), 0);
        KIT.due("found(0)", new CatalogQuery().found(0), CatalogQuery.NONE);
        KIT.due("place()", new CatalogQuery().place(), CatalogQuery.NONE);
        KIT.due("the state", Kit.state(new CatalogQuery()), "0 BYTES, 0 characters, place -1,"
                + " found " + ", -1".repeat(10) + "; 0".repeat(6));
    }

    /** Each run ends with its call 512, which is answered as the first ones are. */
    private static void lastCalls() {
        KIT.sentence("An object is used for at most 512 calls after it has been made");
        CatalogQuery loads = new CatalogQuery();
        int calls = fed(loads, Kit.marc("001x", "24500" + "$a".repeat(172)));
        for (; calls + 2 < 512; calls += 2) {
            KIT.due("load(), call " + (calls + 1), loads.load(), 0);
            KIT.due("drop(0)", loads.drop(0) ? 1 : 0, 1);
        }
        KIT.due("load(), call " + (calls + 1), loads.load(), 0);
        CatalogQuery words = new CatalogQuery();
        for (calls = fed(words, FOX); calls + 3 <= 512; calls += 3) {
            KIT.due("load(), call " + (calls + 1), words.load(), 0);
            KIT.due("words(1)", words.words(1), 1);
            KIT.due("drop(0)", words.drop(0) ? 1 : 0, 1);
        }
        CatalogQuery searches = new CatalogQuery();
        calls = fed(searches, FOX) + 1;
        KIT.due("load()", searches.load(), 0);
        String line = "(((((( title=f*x ))))))or\"\"sortby title/descending";
        Kit.typeMore(searches, line);
        for (calls += (line.length() + 19) / 20; calls < 512; calls++) {
            KIT.due("search(), call " + (calls + 1), searches.search(), 1);
        }
    }

    /** How many calls it took. */
    private static int fed(CatalogQuery x, String bytes) {
        Kit.feedMore(x, bytes);
        return (bytes.length() + 15) / 16;
    }

    private static void wrongNumbers() {
        KIT.sentence("IllegalArgument is thrown where a number is none of those told here.");
        CatalogQuery x = new CatalogQuery();
        KIT.due("load", Kit.load(x, FOX), 0);
        for (int n : OUTSIDE) {
            KIT.dueArgumentFault("feed", () -> x.feed(n, 0, 0, 0, 0));
            KIT.dueArgumentFault("cut", () -> x.cut(n));
            KIT.dueArgumentFault("drop", () -> x.drop(n));
            KIT.dueArgumentFault("record", () -> x.record(n, 0));
            KIT.dueArgumentFault("record's what", () -> x.record(0, n));
            KIT.dueArgumentFault("octet", () -> x.octet(n, 0));
            KIT.dueArgumentFault("words", () -> x.words(n));
            KIT.dueArgumentFault("word", () -> x.word(n, 0, 0));
            KIT.dueArgumentFault("hits", () -> x.hits(n, 0));
            KIT.dueArgumentFault("below", () -> x.below(n));
            KIT.due("found takes any", x.found(n), CatalogQuery.NONE);
            KIT.due("octet takes any k", x.octet(0, n), CatalogQuery.NONE);
            KIT.due("word takes any k", x.word(1, n, 0), ' ');
            KIT.due("word takes any i", x.word(1, 0, n), ' ');
            KIT.due("hits takes any k", x.hits(1, n), 0);
            KIT.due("type takes any", x.type(n, n, n, n, n) > 0 ? 1 : 0, 1);
            x.erase();
        }
    }

    /** Two RECORDS, both found, a fault's place, BYTES and a LINE that are worth keeping. */
    private static CatalogQuery used() {
        CatalogQuery x = new CatalogQuery();
        KIT.due("load", Kit.load(x, FOX), 0);
        KIT.due("load", Kit.load(x, DOG), 1);
        KIT.due("search", Kit.asked(x, "id=* sortby title"), "1 0");
        KIT.due("load", x.load(), CatalogQuery.TWICE);
        return x;
    }

    private static void dueAsUsed(String behind, CatalogQuery x, int place) {
        KIT.due("place behind " + behind, x.place(), place);
        KIT.due("found behind " + behind, Kit.foundBy(x), "1 0");
        KIT.due("words behind " + behind, Kit.lexicon(x, 1), "dog fox");
        KIT.due("RECORD 0 behind " + behind, Kit.octets(x, 0), FOX);
        KIT.due("RECORD 1 behind " + behind, Kit.octets(x, 1), DOG);
    }

    private static void refusedCallsChangeNothing() {
        KIT.sentence("What throws, or has a fault, changes nothing else but place.");
        for (int call = 0; call < 12; call++) {
            CatalogQuery x = used();
            int which = call;
            KIT.dueArgumentFault("call " + call, () -> refused(x, which));
            dueAsUsed("call " + call, x, 49);
            KIT.due("BYTES", x.load(), CatalogQuery.TWICE);
            KIT.due("their number", x.cut(0), DOG.length());
            KIT.due("THE LINE", x.search(), 2);
            KIT.due("what it finds", Kit.foundBy(x), "1 0");
            KIT.due("its length", x.erase(), "id=* sortby title".length());
        }
        CatalogQuery full = used();
        Kit.feedMore(full, "0".repeat(400 - DOG.length()));
        KIT.dueStateFault("feed(1) at 400", () -> full.feed(1, 0, 0, 0, 0));
        dueAsUsed("feed(1) at 400", full, 49);
        KIT.due("BYTES", full.cut(DOG.length()), 400 - DOG.length());
        KIT.due("the RECORD in them", full.load(), CatalogQuery.TWICE);
        CatalogQuery typed = used();
        Kit.typeMore(typed, " ".repeat(83));
        KIT.dueStateFault("type at 100", () -> typed.type(0, 0, 0, 0, 1));
        dueAsUsed("type at 100", typed, 49);
        KIT.due("THE LINE", typed.search(), 2);
        KIT.due("its length", typed.erase(), 100);
    }

    private static void refused(CatalogQuery x, int which) {
        switch (which) {
            case 0: x.feed(-1, -1, -1, -1, -1); break;
            case 1: x.feed(17, -1, -1, -1, -1); break;
            case 2: x.cut(-1); break;
            case 3: x.cut(DOG.length() + 1); break;
            case 4: x.drop(10); break;
            case 5: x.record(10, 0); break;
            case 6: x.record(0, 4); break;
            case 7: x.octet(10, 0); break;
            case 8: x.words(6); break;
            case 9: x.word(6, 0, 0); break;
            case 10: x.hits(6, 0); break;
            default: x.below(6); break;
        }
    }

    private static void faultsChangeNothing() {
        KIT.sentence("or has a fault, changes nothing else but place.");
        String[] lines = {"", "fox and", "x = fox", "title < 5", "fox sortby x",
            "fox sortby title/"};
        int[] places = {0, 7, 0, 6, 11, 17};
        for (int i = 0; i < lines.length; i++) {
            CatalogQuery x = used();
            KIT.due("a fault", Kit.search(x, lines[i]) < 0 ? 1 : 0, 1);
            dueAsUsed("[" + lines[i] + "]", x, places[i]);
            KIT.due("THE LINE", x.erase(), lines[i].length());
            KIT.due("BYTES", x.load(), CatalogQuery.TWICE);
        }
        String[] bytes = {"", "x", Kit.put(FOX, 12, "00000"), Kit.marc("001new", "001new"),
            Kit.marc("001fox", "24500$anew"), Kit.marc("001new", "24500$anew") + "x"};
        int[] placesOfLoad = {0, 0, 12, 36, 49, 0};
        for (int i = 0; i < bytes.length; i++) {
            CatalogQuery x = used();
            KIT.due("a FAULT", Kit.load(x, bytes[i]) < 0 ? 1 : 0, 1);
            dueAsUsed("load " + i, x, placesOfLoad[i]);
            KIT.due("no RECORD 2", x.record(2, 0), CatalogQuery.NONE);
            KIT.due("BYTES", x.cut(0), bytes[i].length());
            KIT.due("THE LINE", x.search(), 2);
        }
    }
}
