import java.io.IOException;
import java.nio.file.Files;
import java.nio.file.Path;
import java.util.ArrayList;
import java.util.List;

/**
 * What the tests share: counting wrong answers, and feeding and typing whole texts. No test asks an
 * object more than 512 times, as what later calls answer is free.
 */
final class Kit {
    private static final Path DOCUMENT = Path.of(System.getProperty("doc", "../shared/DOC.md"));

    private static final int WHAT_LENGTH = 1;

    private final String name;
    private int answers;
    private int wrong;
    private String document = "";
    private String sentence = "";
    private int sentences;
    private int answersBefore;

    Kit(String name) {
        this.name = name;
    }

    void due(String call, long got, long want) {
        due(call, Long.toString(got), Long.toString(want));
    }

    void due(String call, String got, String want) {
        answers++;
        if (!got.equals(want)) {
            complain(call + " answered " + got + ", due is " + want);
        }
    }

    private void complain(String what) {
        wrong++;
        System.out.println(name + ": " + what + (sentence.isEmpty() ? "" : " <" + sentence + ">"));
    }

    /**
     * The answers that follow belong to these words of the document. That they stand there is
     * looked up, so a test cannot go on quoting what the document no longer says.
     */
    void sentence(String words) {
        endSentence();
        sentence = words;
        sentences++;
        if (!document().contains(words)) {
            complain("the document does not say this");
        }
    }

    private void endSentence() {
        if (!sentence.isEmpty() && answers == answersBefore) {
            complain("nothing was asked");
        }
        answersBefore = answers;
        sentence = "";
    }

    private String document() {
        if (document.isEmpty()) {
            try {
                document = Files.readString(DOCUMENT).replaceAll("\\s+", " ");
            } catch (IOException e) {
                complain("there is no document at " + DOCUMENT);
            }
        }
        return document;
    }

    void dueArgumentFault(String call, Runnable run) {
        due(call, thrownBy(run), "IllegalArgumentException");
    }

    void dueStateFault(String call, Runnable run) {
        due(call, thrownBy(run), "IllegalStateException");
    }

    private static String thrownBy(Runnable run) {
        try {
            run.run();
            return "nothing";
        } catch (RuntimeException e) {
            return e.getClass().getSimpleName();
        }
    }

    void end() {
        endSentence();
        System.out.println(name + ": " + answers + " answers"
                + (sentences == 0 ? "" : " to " + sentences + " sentences") + ", " + wrong
                + " wrong");
        if (wrong != 0 || answers == 0) {
            System.exit(1);
        }
    }

    /** Refused with IllegalArgumentException, and nothing that can be asked for is changed. */
    void refusedArgument(String call, CatalogQuery x, Runnable run) {
        String before = state(x);
        dueArgumentFault(call, run);
        due("the state after " + call, state(x), before);
    }

    /** Refused with IllegalStateException, and nothing that can be asked for is changed. */
    void refusedState(String call, CatalogQuery x, Runnable run) {
        String before = state(x);
        dueStateFault(call, run);
        due("the state after " + call, state(x), before);
    }

    /** What can be asked for without changing it, but for each byte and word: some 25 calls. */
    static String state(CatalogQuery x) {
        StringBuilder all = new StringBuilder();
        all.append(x.feed(0, 0, 0, 0, 0)).append(" BYTES, ").append(x.type(0, 0, 0, 0, 0));
        all.append(" characters, place ").append(x.place()).append(", found ").append(foundBy(x));
        for (int record = 0; record < 10; record++) {
            all.append(", ").append(x.record(record, WHAT_LENGTH));
        }
        for (int index = 0; index < 6; index++) {
            all.append("; ").append(x.words(index));
        }
        return all.toString();
    }

    static int four(String text, int from) {
        int number = 0;
        for (int i = 0; i < 4; i++) {
            number = number << 8 | (from + i < text.length() ? text.charAt(from + i) : 0);
        }
        return number;
    }

    /** Puts the text in the place of all BYTES. */
    static void feed(CatalogQuery x, String text) {
        x.cut(0);
        feedMore(x, text);
    }

    static void feedMore(CatalogQuery x, String text) {
        for (int p = 0; p < text.length(); p += 16) {
            x.feed(Math.min(16, text.length() - p), four(text, p), four(text, p + 4),
                    four(text, p + 8), four(text, p + 12));
        }
    }

    static int load(CatalogQuery x, String text) {
        feed(x, text);
        return x.load();
    }

    /** A new object with these RECORDS, numbered from 0 on. */
    CatalogQuery loaded(String... records) {
        CatalogQuery x = new CatalogQuery();
        for (int r = 0; r < records.length; r++) {
            due("load", load(x, records[r]), r);
        }
        return x;
    }

    /** Puts the text in the place of THE LINE. */
    static void type(CatalogQuery x, String text) {
        x.erase();
        typeMore(x, text);
    }

    static void typeMore(CatalogQuery x, String text) {
        for (int p = 0; p < text.length(); p += 20) {
            x.type(four(text, p), four(text, p + 4), four(text, p + 8), four(text, p + 12),
                    four(text, p + 16));
        }
    }

    static int search(CatalogQuery x, String text) {
        type(x, text);
        return x.search();
    }

    /** The answer of a search and its place, and, where it has no fault, what was found. */
    static String asked(CatalogQuery x, String text) {
        int answer = search(x, text);
        return answer < 0 ? answer + "@" + x.place() : x.place() == -1 ? foundBy(x) : "place!";
    }

    static String foundBy(CatalogQuery x) {
        List<String> found = new ArrayList<>();
        int next = x.found(0);
        for (int k = 1; next != CatalogQuery.NONE && k < 99; k++) {
            found.add(Integer.toString(next));
            next = x.found(k);
        }
        return String.join(" ", found);
    }

    static String word(CatalogQuery x, int index, int k) {
        StringBuilder text = new StringBuilder();
        char next = x.word(index, k, 0);
        for (int i = 1; next != ' ' && i < 999; i++) {
            text.append(next);
            next = x.word(index, k, i);
        }
        return text.toString();
    }

    /** All WORDS of an INDEX, each with how many RECORDS have it. */
    static String lexicon(CatalogQuery x, int index) {
        StringBuilder text = new StringBuilder();
        int words = x.words(index);
        for (int k = 0; k < words; k++) {
            int hits = x.hits(index, k);
            text.append(k == 0 ? "" : " ").append(word(x, index, k));
            text.append(hits == 1 ? "" : ":" + hits);
        }
        return text.toString();
    }

    static String octets(CatalogQuery x, int record) {
        StringBuilder text = new StringBuilder();
        int next = x.octet(record, 0);
        for (int k = 1; next != CatalogQuery.NONE && k < 999; k++) {
            text.append((char) next);
            next = x.octet(record, k);
        }
        return text.toString();
    }

    /**
     * A RECORD of FIELDS, each written as its TAG and its contents without 30, $ for 31:
     * "001x", "24514$aThe fox$btail".
     */
    static String marc(String... fields) {
        return marcLed("nam a", fields);
    }

    static String marcLed(String five, String... fields) {
        StringBuilder entries = new StringBuilder();
        StringBuilder contents = new StringBuilder();
        for (String field : fields) {
            String content = field.substring(3).replace('$', '\u001f') + '\u001e';
            entries.append(field, 0, 3);
            entries.append(String.format("%04d%05d", content.length(), contents.length()));
            contents.append(content);
        }
        int base = 24 + entries.length() + 1;
        int length = base + contents.length() + 1;
        return String.format("%05d", length) + five + "22" + String.format("%05d", base)
                + "   4500" + entries + '\u001e' + contents + '\u001d';
    }

    static String put(String text, int p, String other) {
        return text.substring(0, p) + other + text.substring(p + other.length());
    }

    static String put(String text, int p, char other) {
        return put(text, p, String.valueOf(other));
    }

    /** The same bytes with the RECORD's length made right. */
    static String sized(String text) {
        return String.format("%05d", text.length()) + text.substring(5);
    }
}
