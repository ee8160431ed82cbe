/** Promises 2 and 3: feed and cut. */
public final class BytesTest {
    private static final String SMALL = Kit.marc("001x");

    public static void main(String[] args) {
        Kit kit = new Kit("BytesTest");
        manyAreTaken(kit);
        fourInEachHighestFirst(kit);
        wrongMany(kit);
        atMostFourHundred(kit);
        cut(kit);
        kit.end();
    }

    private static void manyAreTaken(Kit kit) {
        CatalogQuery x = new CatalogQuery();
        int sum = 0;
        for (int many = 0; many <= 16; many++) {
            sum += many;
            kit.due("feed(" + many + ")", x.feed(many, 1, 2, 3, 4), sum);
        }
        kit.due("place()", x.place(), CatalogQuery.NONE);
    }

    /** BYTES show in octet: here each many brings a RECORD in portions of that size. */
    private static void fourInEachHighestFirst(Kit kit) {
        String text = Kit.marc("001x", "24504$aThe fox$b~", "260  $c1987");
        for (int many = 1; many <= 16; many++) {
            CatalogQuery x = new CatalogQuery();
            for (int p = 0; p < text.length(); p += many) {
                x.feed(Math.min(many, text.length() - p), Kit.four(text, p), Kit.four(text, p + 4),
                        Kit.four(text, p + 8), Kit.four(text, p + 12));
            }
            kit.due("load() by " + many, x.load(), 0);
            kit.due("octets by " + many, Kit.octets(x, 0), text);
        }
        CatalogQuery x = new CatalogQuery();
        Kit.feed(x, "00024");
        x.feed(1, 0xff000000, 0, 0, 0);
        kit.due("a byte 255", x.load(), CatalogQuery.FORM);
        kit.due("its place", x.place(), 5);
    }

    private static void wrongMany(Kit kit) {
        CatalogQuery x = new CatalogQuery();
        Kit.feed(x, SMALL);
        int[] wrong = {-1, 17, Integer.MIN_VALUE, Integer.MAX_VALUE};
        for (int many : wrong) {
            kit.dueArgumentFault("feed(" + many + ")", () -> x.feed(many, 0, 0, 0, 0));
        }
        kit.due("BYTES stay", x.feed(0, 0, 0, 0, 0), SMALL.length());
        kit.due("load()", x.load(), 0);
    }

    private static void atMostFourHundred(Kit kit) {
        CatalogQuery x = new CatalogQuery();
        for (int i = 1; i <= 25; i++) {
            kit.due("feed", x.feed(16, 0, 0, 0, 0), 16 * i);
        }
        kit.due("feed(0) when full", x.feed(0, 0, 0, 0, 0), 400);
        kit.dueStateFault("feed(1) when full", () -> x.feed(1, 0, 0, 0, 0));
        kit.dueArgumentFault("feed(17) when full", () -> x.feed(17, 0, 0, 0, 0));
        kit.due("cut(390)", x.cut(390), 10);
        kit.dueStateFault("feed(11) at 390", () -> x.feed(11, 0, 0, 0, 0));
        kit.due("none of them came", x.feed(10, 0, 0, 0, 0), 400);
    }

    private static void cut(Kit kit) {
        CatalogQuery x = new CatalogQuery();
        kit.dueArgumentFault("cut(1) of none", () -> x.cut(1));
        Kit.feed(x, SMALL + "abc");
        int length = SMALL.length();
        kit.dueArgumentFault("cut(-1)", () -> x.cut(-1));
        kit.dueArgumentFault("cut one too many", () -> x.cut(length + 4));
        kit.dueArgumentFault("cut(401)", () -> x.cut(401));
        kit.dueArgumentFault("cut of the least", () -> x.cut(Integer.MIN_VALUE));
        kit.due("cut of all", x.cut(length + 3), 0);
        kit.due("cut of three", x.cut(length), 3);
        kit.due("the first ones stay", x.load(), 0);
        kit.due("cut(10)", x.cut(10), length - 10);
        Kit.feedMore(x, SMALL.substring(10));
        kit.due("the first ten stayed", x.load(), CatalogQuery.TWICE);
        kit.due("cut(0)", x.cut(0), length);
        kit.due("cut(0) again", x.cut(0), 0);
        kit.due("RECORDS stay", x.record(0, 1), length);
    }
}
