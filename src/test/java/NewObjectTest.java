/** Promise 1, and the constants. */
public final class NewObjectTest {
    public static void main(String[] args) {
        Kit kit = new Kit("NewObjectTest");
        CatalogQuery x = new CatalogQuery();
        kit.due("place()", x.place(), CatalogQuery.NONE);
        kit.due("found(0)", x.found(0), CatalogQuery.NONE);
        for (int r = 0; r < 10; r++) {
            for (int what = 0; what < 4; what++) {
                kit.due("record", x.record(r, what), CatalogQuery.NONE);
            }
            kit.due("octet", x.octet(r, 0), CatalogQuery.NONE);
            kit.due("drop", x.drop(r) ? 1 : 0, 0);
        }
        for (int index = 0; index < 6; index++) {
            kit.due("words", x.words(index), 0);
            kit.due("word", x.word(index, 0, 0), ' ');
            kit.due("hits", x.hits(index, 0), 0);
            kit.due("below", x.below(index), 0);
        }
        kit.due("cut(0): no BYTES", x.cut(0), 0);
        kit.due("erase(): an empty LINE", x.erase(), 0);
        kit.due("load()", x.load(), CatalogQuery.FORM);
        kit.due("its place", x.place(), 0);
        kit.due("search()", x.search(), CatalogQuery.SIGN);
        kit.due("its place", x.place(), 0);
        constants(kit);
        twoObjectsShareNothing(kit);
        kit.end();
    }

    private static void constants(Kit kit) {
        int[] all = {CatalogQuery.NONE, CatalogQuery.SIGN, CatalogQuery.INDEX,
            CatalogQuery.RELATION, CatalogQuery.FORM, CatalogQuery.LENGTH, CatalogQuery.FIELD,
            CatalogQuery.TWICE, CatalogQuery.FULL};
        for (int i = 0; i < all.length; i++) {
            kit.due("constant " + i, all[i], -1 - i);
        }
    }

    private static void twoObjectsShareNothing(Kit kit) {
        CatalogQuery used = new CatalogQuery();
        kit.due("load", Kit.load(used, Kit.marc("001x", "245  $afox")), 0);
        kit.due("search", Kit.search(used, "fox"), 1);
        CatalogQuery fresh = new CatalogQuery();
        kit.due("erase() of another", fresh.erase(), 0);
        kit.due("cut(0) of another", fresh.cut(0), 0);
        kit.due("record of another", fresh.record(0, 0), CatalogQuery.NONE);
        kit.due("words of another", fresh.words(0), 0);
        kit.due("found of another", fresh.found(0), CatalogQuery.NONE);
    }
}
