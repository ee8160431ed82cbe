import java.util.ArrayList;
import java.util.List;
import java.util.Random;
import java.util.function.ToLongFunction;

/** Random runs of calls, the same every time, on the class and on the model side by side. */
public final class ModelTest {
    private static final int RUNS = Integer.getInteger("runs", 1500);
    private static final int CALLS = 512;

    private static final String[] WORDS = {"fox", "foxes", "Red", "the", "The", "a", "of", "snow",
        "1987", "1990", "19", "87", "12345", "c1990", "ab", "and", "any", "title", "x", "Zoo"};
    private static final String[] TAGS = {"245", "245", "245", "100", "700", "650", "260", "260",
        "010", "009", "000", "999", "264"};

    private final Random random;
    private final Kit kit;
    private final CatalogQuery real = new CatalogQuery();
    private final Model model = new Model();
    private int calls;

    private ModelTest(Kit kit, long seed) {
        this.kit = kit;
        this.random = new Random(seed);
    }

    public static void main(String[] args) {
        Kit kit = new Kit("ModelTest");
        for (int run = 0; run < RUNS; run++) {
            new ModelTest(kit, run).run();
        }
        kit.end();
    }

    private static <T> String answer(T object, ToLongFunction<T> call) {
        try {
            return Long.toString(call.applyAsLong(object));
        } catch (RuntimeException e) {
            return e.getClass().getSimpleName();
        }
    }

    private void both(String name, ToLongFunction<CatalogQuery> mine, ToLongFunction<Model> due) {
        if (calls < CALLS) {
            calls++;
            kit.due(name, answer(real, mine), answer(model, due));
        }
    }

    private int pick(int bound) {
        return random.nextInt(bound);
    }

    private String pickOf(String... some) {
        return some[pick(some.length)];
    }

    private void run() {
        while (calls < CALLS) {
            int what = pick(20);
            if (what < 6) {
                loadSome();
            } else if (what < 14) {
                searchSome();
            } else if (what < 18) {
                lookAround();
            } else {
                tryEdges();
            }
        }
    }

    private void loadSome() {
        String text = someRecord();
        int changes = pick(3) == 0 ? 1 + pick(2) : 0;
        for (int i = 0; i < changes; i++) {
            text = spoilt(text);
        }
        if (text.length() > 400) {
            return;
        }
        both("cut(0)", x -> x.cut(0), x -> x.cut(0));
        feed(text);
        both("load()", x -> x.load(), x -> x.load());
        both("place()", x -> x.place(), x -> x.place());
    }

    private void feed(String t) {
        for (int p = 0; p < t.length(); p += 16) {
            int q = p;
            int many = Math.min(16, t.length() - p);
            both("feed", x -> x.feed(many, Kit.four(t, q), Kit.four(t, q + 4), Kit.four(t, q + 8),
                    Kit.four(t, q + 12)), x -> x.feed(many, Kit.four(t, q), Kit.four(t, q + 4),
                    Kit.four(t, q + 8), Kit.four(t, q + 12)));
        }
    }

    private String someText() {
        StringBuilder text = new StringBuilder();
        for (int i = pick(5); i > 0; i--) {
            text.append(pickOf(WORDS)).append(pickOf(" ", " ", " ", ", ", "*", "?", "-", ""));
        }
        return text.toString();
    }

    private String someRecord() {
        List<String> fields = new ArrayList<>();
        fields.add("001" + pickOf("", "q", "Q", "ab", "x-", "fox", "The 1987 ") + pickOf("", "1",
                "2", "3", " 3", "44", "z"));
        for (int i = pick(6); i > 0; i--) {
            StringBuilder field = new StringBuilder(pickOf(TAGS));
            if (field.charAt(1) != '0' || field.charAt(0) != '0') {
                field.append(pickOf(" ", "0", "1")).append(pickOf(" ", "0", "1", "2", "4", "9"));
                for (int s = 1 + pick(2); s > 0; s--) {
                    field.append('$').append(pickOf("a", "a", "b", "c", "c", "0", "z"));
                    field.append(someText());
                }
            } else {
                field.append(someText());
            }
            fields.add(field.toString());
        }
        return Kit.marcLed(pickOf("nam a", "caz  ", "pqr a"), fields.toArray(new String[0]));
    }

    /** Changes where FAULTS are: any byte, a TAG, a digit of the directory, or the end. */
    private String spoilt(String text) {
        if (pick(8) == 0 && text.length() > 40) {
            int entry = 24 + 12 * pick(Math.max(1, (text.indexOf('\u001e') - 24) / 12));
            return text.substring(0, entry) + pickOf("001", "009", "010", "011", "245")
                    + text.substring(entry + 3);
        }
        StringBuilder bytes = new StringBuilder(text.isEmpty() ? "x" : text);
        int length = bytes.length();
        int p = pick(2) == 0 ? pick(length) : pick(Math.min(length, 90));
        char c = pickOf("\u001d", "\u001e", "\u001f", "0", "1", "2", "9", " ", "a", "A", "z", "\0",
                "\u007f", "\u00ff", "~").charAt(0);
        switch (pick(6)) {
            case 0: bytes.setLength(p); break;
            case 1: bytes.insert(p, c); break;
            case 2: bytes.deleteCharAt(p); break;
            case 3: bytes.append(c); break;
            default: bytes.setCharAt(p, c); break;
        }
        if (pick(2) == 0 && bytes.length() > 5) {
            bytes.replace(0, 5, String.format("%05d", bytes.length()));
        }
        return bytes.toString();
    }

    private String someTerm() {
        switch (pick(8)) {
            case 0: return "\"" + someText() + "\"";
            case 1: return "\"" + pickOf(WORDS) + " " + pickOf(WORDS) + "\"";
            case 2: return pickOf("*", "f*", "*x", "fo?", "?", "r*d", "f**s", "*o*", "?*",
                    "\"* *\"", "\"fo* ?\"", "t?e", "19*", "*8*7", "????");
            default: return pickOf(WORDS);
        }
    }

    private String someClause(int depth) {
        if (depth < 8 && pick(6) == 0) {
            return "(" + someQuery(depth + 1) + ")";
        }
        if (pick(3) == 0) {
            return someTerm();
        }
        String blank = pickOf("", " ", "  ");
        String signs = pickOf("=", "==", "=", "==", "<", ">", "<=", ">=");
        String index = "<>".indexOf(signs.charAt(0)) >= 0 && pick(6) > 0 ? pickOf("date", "DATE")
                : pickOf("any", "title", "author", "subject", "date", "id", "Title", "DATE",
                        "titel");
        String relation = pick(2) == 0 ? blank + signs + blank
                : " " + pickOf("any", "all", "adj", "exact", "ANY", "Exact") + " ";
        return index + relation + someTerm();
    }

    private String someQuery(int depth) {
        StringBuilder query = new StringBuilder(someClause(depth));
        for (int i = pick(3); i > 0; i--) {
            query.append(pickOf(" and ", " or ", " not ", " AND ", " oR "));
            query.append(someClause(depth));
        }
        return query.toString();
    }

    private String someLine() {
        boolean wide = pick(3) == 0;
        StringBuilder line = new StringBuilder(wide ? pickOf("id any *", "id=*or*", "*", "title any"
                + " \"f* r* t* a s*\"", "any all *o*", "date >= 0", "id any *not fox")
                : someQuery(0));
        if (pick(wide ? 1 : 3) == 0) {
            line.append(pickOf(" sortby ", " sortBy ")).append(pickOf("title", "author", "date",
                    "date", "any", "id", "subject", "titel"));
            line.append(pickOf("", "", "/descending", " / DESCENDING"));
        }
        for (int i = pick(4) == 0 ? 1 + pick(2) : 0; i > 0 && line.length() > 0; i--) {
            int p = pick(line.length());
            switch (pick(3)) {
                case 0: line.deleteCharAt(p); break;
                case 1: line.insert(p, pickOf("(", ")", "\"", "/", "<", "=", ">", " ", " and ",
                        " any ", " not ", " sortby ", " descending ", "*", "?", "\u00e9")); break;
                default: line.setLength(p); break;
            }
        }
        return line.length() > 100 ? line.substring(0, 100) : line.toString();
    }

    private void searchSome() {
        both("erase()", x -> x.erase(), x -> x.erase());
        String line = someLine();
        for (int p = 0; p < line.length(); p += 20) {
            int q = p;
            both("type", x -> x.type(Kit.four(line, q), Kit.four(line, q + 4),
                    Kit.four(line, q + 8), Kit.four(line, q + 12), Kit.four(line, q + 16)),
                    x -> x.type(Kit.four(line, q), Kit.four(line, q + 4), Kit.four(line, q + 8),
                    Kit.four(line, q + 12), Kit.four(line, q + 16)));
        }
        both("search() of [" + line + "]", x -> x.search(), x -> x.search());
        both("place() of [" + line + "]", x -> x.place(), x -> x.place());
        for (int k = 0; k < 4; k++) {
            int at = k;
            both("found(" + at + ") of [" + line + "]", x -> x.found(at), x -> x.found(at));
        }
    }

    private void lookAround() {
        int index = pick(6);
        int k = pick(12) - 1;
        int i = pick(4) - 1;
        both("words", x -> x.words(index), x -> x.words(index));
        both("word", x -> x.word(index, k, i), x -> x.word(index, k, i));
        both("hits", x -> x.hits(index, k), x -> x.hits(index, k));
        both("below", x -> x.below(index), x -> x.below(index));
        int record = pick(10);
        int what = pick(4);
        int p = pick(200) - 1;
        both("record", x -> x.record(record, what), x -> x.record(record, what));
        both("octet", x -> x.octet(record, p), x -> x.octet(record, p));
        if (pick(4) == 0) {
            both("drop", x -> x.drop(record) ? 1 : 0, x -> x.drop(record) ? 1 : 0);
        }
    }

    private void tryEdges() {
        int n = pick(2) == 0 ? random.nextInt() : pick(20) - 4;
        int m = pick(14) - 2;
        switch (pick(9)) {
            case 0: both("cut", x -> x.cut(n), x -> x.cut(n)); break;
            case 1: both("feed", x -> x.feed(n, m, n, m, n), x -> x.feed(n, m, n, m, n)); break;
            case 2: both("drop", x -> x.drop(m) ? 1 : 0, x -> x.drop(m) ? 1 : 0); break;
            case 3: both("type", x -> x.type(n, m, n, m, n), x -> x.type(n, m, n, m, n)); break;
            case 4: both("record", x -> x.record(m, n), x -> x.record(m, n)); break;
            case 5: both("octet", x -> x.octet(m, n), x -> x.octet(m, n)); break;
            case 6: both("word", x -> x.word(m, n, 0), x -> x.word(m, n, 0)); break;
            case 7: both("hits", x -> x.hits(m, n), x -> x.hits(m, n)); break;
            default: both("below", x -> x.below(m), x -> x.below(m)); break;
        }
    }
}
