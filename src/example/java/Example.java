/** Loads records, asks the lines that it is started with, and tells the words of the titles. */
public final class Example {
    private static final int TITLE = 1;
    private static final int LENGTH_OF_RECORD = 1;
    private static final int DATE_OF_RECORD = 2;

    public static void main(String[] lines) {
        CatalogQuery catalog = new CatalogQuery();
        load(catalog, record("001ab1", "1001 $aSmith, John", "24514$aThe red fox$ba tale of foxes",
                "260  $aParis$cc1987."));
        load(catalog, record("001ab2", "1001 $aJones, Mary", "24510$aRed Fox running",
                "260  $aParis$c1990-1991"));
        load(catalog, record("001ab3", "1001 $aSmith, Ann", "24512$aA fox$bin the snow",
                "650 0$aFoxes"));
        load(catalog, record("001ab2", "24500$aAnother book, but ab2 is taken"));
        for (String line : lines) {
            ask(catalog, line);
        }
        tellWords(catalog, TITLE);
    }

    private static void load(CatalogQuery catalog, String bytes) {
        catalog.cut(0);
        for (int p = 0; p < bytes.length(); p += 16) {
            catalog.feed(Math.min(16, bytes.length() - p), four(bytes, p), four(bytes, p + 4),
                    four(bytes, p + 8), four(bytes, p + 12));
        }
        int number = catalog.load();
        if (number < 0) {
            System.out.println("load: fault " + number + " at byte " + catalog.place());
            return;
        }
        System.out.println("load: record " + number + ", "
                + catalog.record(number, LENGTH_OF_RECORD) + " bytes, date "
                + catalog.record(number, DATE_OF_RECORD));
    }

    private static void ask(CatalogQuery catalog, String line) {
        catalog.erase();
        for (int p = 0; p < line.length(); p += 20) {
            catalog.type(four(line, p), four(line, p + 4), four(line, p + 8), four(line, p + 12),
                    four(line, p + 16));
        }
        int many = catalog.search();
        if (many < 0) {
            System.out.println(line + ": fault " + many + " at character " + catalog.place());
            return;
        }
        System.out.print(line + ": " + many + " found:");
        for (int k = 0; k < many; k++) {
            System.out.print(" " + catalog.found(k));
        }
        System.out.println();
    }

    private static void tellWords(CatalogQuery catalog, int index) {
        int many = catalog.words(index);
        System.out.print(many + " words:");
        for (int k = 0; k < many; k++) {
            System.out.print(" ");
            char next = catalog.word(index, k, 0);
            for (int i = 1; next != ' '; i++) {
                System.out.print(next);
                next = catalog.word(index, k, i);
            }
            System.out.print("=" + catalog.hits(index, k));
        }
        System.out.println();
    }

    /** Four characters in one number, the highest byte first; 0 where the text has ended. */
    private static int four(String text, int from) {
        int number = 0;
        for (int i = from; i < from + 4; i++) {
            number = number << 8 | (i < text.length() ? text.charAt(i) & 255 : 0);
        }
        return number;
    }

    /** The bytes of a record. A field: its tag, then what it holds, with $ before each code. */
    private static String record(String... fields) {
        StringBuilder entries = new StringBuilder();
        StringBuilder contents = new StringBuilder();
        for (String field : fields) {
            String content = field.substring(3).replace('$', (char) 31) + (char) 30;
            entries.append(field, 0, 3);
            entries.append(String.format("%04d%05d", content.length(), contents.length()));
            contents.append(content);
        }
        int base = 24 + entries.length() + 1;
        int length = base + contents.length() + 1;
        return String.format("%05dnam a22%05d   4500", length, base) + entries + (char) 30
                + contents + (char) 29;
    }
}
