/** Promises 6 and 7: type and erase. */
public final class LineTest {
    public static void main(String[] args) {
        Kit kit = new Kit("LineTest");
        zeroBytesAreNone(kit);
        atMostAHundred(kit);
        charactersInOrder(kit);
        kit.end();
    }

    private static void zeroBytesAreNone(Kit kit) {
        CatalogQuery x = new CatalogQuery();
        kit.due("type of none", x.type(0, 0, 0, 0, 0), 0);
        kit.due("twenty", x.type(0x41414141, 0x41414141, 0x41414141, 0x41414141, 0x41414141), 20);
        kit.due("some", x.type(0x00410041, 0, 0x41000000, 0x00000041, 0xff0000ff), 26);
        kit.due("erase", x.erase(), 26);
        kit.due("erase again", x.erase(), 0);
        kit.due("from the start again", x.type(0x20000000, 0, 0, 0, 0), 1);
    }

    private static void atMostAHundred(Kit kit) {
        CatalogQuery x = new CatalogQuery();
        int a = 0x61616161;
        for (int i = 1; i <= 4; i++) {
            kit.due("type", x.type(a, a, a, a, a), 20 * i);
        }
        kit.due("type", x.type(a, a, a, a, 0x61610000), 98);
        kit.dueStateFault("type of three", () -> x.type(0, 0, 0x00610061, 0, 0x61));
        kit.dueStateFault("type of twenty", () -> x.type(a, a, a, a, a));
        kit.due("nothing came", x.type(0, 0, 0, 0, 0), 98);
        kit.due("two", x.type(0, 0x00620000, 0, 0, 0x62), 100);
        kit.due("none when full", x.type(0, 0, 0, 0, 0), 100);
        for (int shift = 0; shift < 32; shift += 8) {
            int one = 0x61 << shift;
            kit.dueStateFault("one more in a", () -> x.type(one, 0, 0, 0, 0));
            kit.dueStateFault("one more in b", () -> x.type(0, one, 0, 0, 0));
            kit.dueStateFault("one more in c", () -> x.type(0, 0, one, 0, 0));
            kit.dueStateFault("one more in d", () -> x.type(0, 0, 0, one, 0));
            kit.dueStateFault("one more in e", () -> x.type(0, 0, 0, 0, one));
        }
        kit.due("search of a hundred", x.search(), 0);
        Kit.load(x, Kit.marc("001x", "245  $a" + "a".repeat(98) + "bb"));
        kit.due("search of a word as long", x.search(), 1);
        kit.due("none is below it", x.below(0), 0);
        Kit.load(x, Kit.marc("001y", "245  $a" + "a".repeat(98) + "b"));
        kit.due("its beginning is", x.below(0), 1);
        kit.due("but not found", x.search(), 1);
        kit.due("THE LINE stays", x.erase(), 100);
    }

    private static void charactersInOrder(Kit kit) {
        CatalogQuery x = new CatalogQuery();
        Kit.load(x, Kit.marc("001x", "245  $aabcdefghijklmnopqrstuvwxyz"));
        x.type(0x61620063, 0x64656667, 0x00000068, 0x696a0000, 0x6b006c00);
        x.type(0, 0x6d6e6f70, 0, 0x71727374, 0x75767778);
        x.type(0x00790000, 0x7a, 0, 0, 0);
        kit.due("search", x.search(), 1);
        kit.due("found", x.found(0), 0);
        kit.due("erase", x.erase(), 26);
        x.type(0xff616262, 0, 0, 0, 0);
        kit.due("a character 255 is no letter", x.below(0), 0);
        kit.due("but one of a NAME", x.search(), 0);
        x.type(0x20282020, 0, 0, 0, 0);
        kit.due("SIGN", x.search(), CatalogQuery.SIGN);
        kit.due("its place", x.place(), 5);
    }
}
