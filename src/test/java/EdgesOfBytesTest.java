/** Promises 2 and 3, sentence by sentence: the edges of feed and cut. */
public final class EdgesOfBytesTest {
    private static final Kit KIT = new Kit("EdgesOfBytesTest");
    private static final String SMALL = Kit.marc("001x");

    public static void main(String[] args) {
        feedTakesMany();
        feedRefusesMany();
        feedRefusesMoreThanFourHundred();
        bytesAreFourHundred();
        cutKeepsTheFirst();
        cutRefuses();
        KIT.end();
    }

    private static CatalogQuery fedWith(String text) {
        CatalogQuery x = new CatalogQuery();
        Kit.feedMore(x, text);
        return x;
    }

    /** What stands in the numbers behind many is no byte: here it would be a wrong one. */
    private static void feedTakesMany() {
        KIT.sentence("Up to sixteen BYTES more, four in each number, the highest first, many of"
                + " them: how many there are.");
        CatalogQuery none = new CatalogQuery();
        KIT.due("feed(0) of none", none.feed(0, -1, -1, -1, -1), 0);
        KIT.due("BYTES after feed(0)", none.cut(0), 0);
        KIT.due("feed(16) of none", none.feed(16, -1, -1, -1, -1), 16);
        KIT.due("feed(0) of sixteen", none.feed(0, -1, -1, -1, -1), 16);
        for (int many = 0; many <= 16; many++) {
            String first = SMALL.substring(0, many) + "\u00ff".repeat(16 - many);
            CatalogQuery x = new CatalogQuery();
            KIT.due("feed(" + many + ")", x.feed(many, Kit.four(first, 0), Kit.four(first, 4),
                    Kit.four(first, 8), Kit.four(first, 12)), many);
            Kit.feedMore(x, SMALL.substring(many));
            KIT.due("BYTES behind feed(" + many + ")", x.feed(0, 0, 0, 0, 0), SMALL.length());
            KIT.due("load() behind feed(" + many + ")", x.load(), 0);
            KIT.due("octets behind feed(" + many + ")", Kit.octets(x, 0), SMALL);
        }
        CatalogQuery zeros = new CatalogQuery();
        KIT.due("bytes 0 count", zeros.feed(16, 0, 0, 0, 0), 16);
        KIT.due("bytes 255 count", zeros.feed(3, -1, 0, 0, 0), 19);
    }

    private static void feedRefusesMany() {
        KIT.sentence("IllegalArgument: many is not 0 .. 16.");
        CatalogQuery none = new CatalogQuery();
        CatalogQuery some = fedWith(SMALL);
        CatalogQuery full = fedWith("0".repeat(400));
        for (int many : new int[] {-1, 17, -16, Integer.MIN_VALUE, Integer.MAX_VALUE}) {
            KIT.refusedArgument("feed(" + many + ") of none", none,
                    () -> none.feed(many, 0, 0, 0, 0));
            KIT.refusedArgument("feed(" + many + ") of some", some,
                    () -> some.feed(many, 0, 0, 0, 0));
            KIT.refusedArgument("feed(" + many + ") of 400", full,
                    () -> full.feed(many, 0, 0, 0, 0));
        }
        KIT.due("the BYTES are the same", some.load(), 0);
    }

    private static void feedRefusesMoreThanFourHundred() {
        KIT.sentence("IllegalState: there would be more than 400.");
        for (int many = 1; many <= 16; many++) {
            int n = many;
            CatalogQuery full = fedWith("0".repeat(400));
            KIT.refusedState("feed(" + n + ") at 400", full, () -> full.feed(n, 0, 0, 0, 0));
            CatalogQuery almost = fedWith("0".repeat(401 - n));
            KIT.refusedState("feed(" + n + ") at " + (401 - n), almost,
                    () -> almost.feed(n, 0, 0, 0, 0));
            KIT.due("feed of one less", almost.feed(n - 1, 0, 0, 0, 0), 400);
            KIT.due("feed(" + n + ") that just fits", fedWith("0".repeat(400 - n)).feed(n, 0, 0, 0,
                    0), 400);
        }
        KIT.due("feed(0) at 400", fedWith("0".repeat(400)).feed(0, 0, 0, 0, 0), 400);
        CatalogQuery x = fedWith(SMALL + "0".repeat(400 - SMALL.length()));
        KIT.refusedState("feed(16) at 400", x, () -> x.feed(16, -1, -1, -1, -1));
        KIT.due("cut to the RECORD", x.cut(SMALL.length()), 400 - SMALL.length());
        KIT.due("the BYTES are the same", x.load(), 0);
    }

    private static void bytesAreFourHundred() {
        KIT.sentence("BYTES are at most 400.");
        String longest = Kit.marc("001" + "y".repeat(361));
        CatalogQuery x = fedWith(longest);
        KIT.due("feed(0)", x.feed(0, 0, 0, 0, 0), 400);
        KIT.due("load() of 400", x.load(), 0);
        KIT.due("its length", x.record(0, 1), 400);
        KIT.due("its first byte", x.octet(0, 0), '0');
        KIT.due("its last byte", x.octet(0, 399), 29);
        KIT.due("none behind it", x.octet(0, 400), CatalogQuery.NONE);
        KIT.due("cut(400)", x.cut(400), 0);
        KIT.due("cut(0)", x.cut(0), 400);
        KIT.due("400 once more", fedAgain(x, longest), 400);
    }

    private static int fedAgain(CatalogQuery x, String text) {
        Kit.feedMore(x, text);
        return x.feed(0, 0, 0, 0, 0);
    }

    private static void cutKeepsTheFirst() {
        KIT.sentence("The first n BYTES alone stay: how many are gone.");
        KIT.due("cut(0) of none", new CatalogQuery().cut(0), 0);
        int length = SMALL.length();
        for (int n = 0; n <= length; n++) {
            CatalogQuery x = fedWith(SMALL);
            KIT.due("cut(" + n + ")", x.cut(n), length - n);
            KIT.due("cut(" + n + ") again", x.cut(n), 0);
            KIT.due("BYTES behind cut(" + n + ")", x.feed(0, 0, 0, 0, 0), n);
            Kit.feedMore(x, SMALL.substring(n));
            KIT.due("the first " + n + " stayed", x.load(), 0);
            KIT.due("cut of all", x.cut(0), length);
            KIT.due("none is left", x.cut(0), 0);
        }
        for (int n = 24; n < length; n++) {
            CatalogQuery x = fedWith(String.format("%05d", n) + SMALL.substring(5));
            KIT.due("load() of more", x.load(), CatalogQuery.LENGTH);
            x.cut(n);
            KIT.due("load() of " + n + " that stay", x.load(), CatalogQuery.FORM);
            KIT.due("those behind are gone", x.place(), n);
        }
    }

    private static void cutRefuses() {
        KIT.sentence("IllegalArgument: n is below 0, or there are not so many.");
        CatalogQuery none = new CatalogQuery();
        CatalogQuery some = fedWith(SMALL);
        CatalogQuery full = fedWith("0".repeat(400));
        for (int n : new int[] {-1, Integer.MIN_VALUE, 401, Integer.MAX_VALUE}) {
            KIT.refusedArgument("cut(" + n + ") of none", none, () -> none.cut(n));
            KIT.refusedArgument("cut(" + n + ") of some", some, () -> some.cut(n));
            KIT.refusedArgument("cut(" + n + ") of 400", full, () -> full.cut(n));
        }
        KIT.refusedArgument("cut(1) of none", none, () -> none.cut(1));
        KIT.refusedArgument("one too many", some, () -> some.cut(SMALL.length() + 1));
        some.cut(10);
        KIT.refusedArgument("what is gone", some, () -> some.cut(11));
        Kit.feedMore(some, SMALL.substring(10));
        KIT.due("the BYTES are the same", some.load(), 0);
    }
}
