import java.util.ArrayList;
import java.util.Arrays;
import java.util.Comparator;
import java.util.HashMap;
import java.util.LinkedHashMap;
import java.util.List;
import java.util.Map;
import java.util.Set;
import java.util.TreeMap;
import java.util.TreeSet;
import java.util.function.Predicate;
import java.util.regex.Matcher;
import java.util.regex.Pattern;

/**
 * The document once more, written apart from the class with the whole Java library: the random
 * runs of ModelTest put the two side by side.
 */
final class Model {
    private static final List<String> INDEXES =
            List.of("any", "title", "author", "subject", "date", "id");

    private static final class Fault extends RuntimeException {
        private static final long serialVersionUID = 1;
        final int kind;
        final int place;

        Fault(int kind, int place) {
            this.kind = kind;
            this.place = place;
        }
    }

    private record Field(String tag, String content) { }

    private record Item(String leader, List<Field> fields) {
        String id() {
            return fields.get(0).content();
        }

        List<String> texts(int index) {
            List<String> texts = new ArrayList<>();
            for (Field f : fields) {
                if (index == 5 && f.tag.equals("001")) {
                    texts.add(f.content);
                }
                if (f.tag.compareTo("010") < 0) {
                    continue;
                }
                String[] parts = f.content.split("\u001f", -1);
                for (int i = 1; i < parts.length; i++) {
                    char code = parts[i].charAt(0);
                    String text = parts[i].substring(1);
                    if (index == 0) {
                        texts.add(text);
                    } else if (indexOf(f.tag + code) == index) {
                        char second = parts[0].charAt(1);
                        int skip = index == 1 && code == 'a' && second != ' ' ? second - '0' : 0;
                        texts.add(text.length() < skip ? "" : text.substring(skip));
                    }
                }
            }
            return texts;
        }

        private static int indexOf(String tagAndCode) {
            switch (tagAndCode) {
                case "245a": case "245b": return 1;
                case "100a": case "700a": return 2;
                case "650a": return 3;
                case "260c": return 4;
                default: return -1;
            }
        }

        int date() {
            return texts(4).stream().mapToInt(Model::year).filter(y -> y >= 0).findFirst()
                    .orElse(-1);
        }

        String bytes() {
            StringBuilder entries = new StringBuilder();
            StringBuilder contents = new StringBuilder();
            for (Field f : fields) {
                entries.append(f.tag).append(String.format("%04d%05d", f.content.length() + 1,
                        contents.length()));
                contents.append(f.content).append('\u001e');
            }
            int base = 25 + entries.length();
            return String.format("%05d", base + contents.length() + 1) + leader.substring(5, 12)
                    + String.format("%05d", base) + leader.substring(17) + entries + '\u001e'
                    + contents + '\u001d';
        }
    }

    private String bytes = "";
    private String line = "";
    private final TreeMap<Integer, Item> items = new TreeMap<>();
    private List<Integer> found = new ArrayList<>();
    private int place = -1;

    private static String unpack(int... numbers) {
        StringBuilder text = new StringBuilder();
        for (int n : numbers) {
            for (int shift = 24; shift >= 0; shift -= 8) {
                text.append((char) (n >> shift & 0xff));
            }
        }
        return text.toString();
    }

    int feed(int many, int a, int b, int c, int d) {
        if (many < 0 || many > 16) {
            throw new IllegalArgumentException();
        }
        if (bytes.length() + many > 400) {
            throw new IllegalStateException();
        }
        bytes += unpack(a, b, c, d).substring(0, many);
        return bytes.length();
    }

    int cut(int n) {
        if (n < 0 || n > bytes.length()) {
            throw new IllegalArgumentException();
        }
        int gone = bytes.length() - n;
        bytes = bytes.substring(0, n);
        return gone;
    }

    int load() {
        try {
            Item item = read(bytes);
            for (Item other : items.values()) {
                if (other.id().equals(item.id())) {
                    throw new Fault(-8, Integer.parseInt(bytes.substring(12, 17)));
                }
            }
            if (items.size() == 10) {
                throw new Fault(-9, 0);
            }
            int number = 0;
            while (items.containsKey(number)) {
                number++;
            }
            items.put(number, item);
            place = -1;
            return number;
        } catch (Fault f) {
            place = f.place;
            return f.kind;
        }
    }

    /** The longest beginning of text from p on that can still grow into a whole match. */
    private static int goodPart(Pattern pattern, String text, int p) {
        int good = p;
        for (int end = p; end <= text.length(); end++) {
            Matcher m = pattern.matcher(text).region(p, end);
            if (m.matches() || m.hitEnd()) {
                good = end;
            } else {
                break;
            }
        }
        return good;
    }

    private static final Pattern LEADER = Pattern.compile(
            "[0-9]{5}[acdnp][a-z]{2} [ a]22[0-9]{5}   4500");
    private static final Pattern ENTRIES = Pattern.compile("([0-9]{12})+\u001e");
    private static final Pattern TEXT_FIELD = Pattern.compile("[ -~]*\u001e");
    private static final Pattern FIELD = Pattern.compile(
            "[ 0-9]{2}(\u001f[a-z0-9][ -~]*)+\u001e");

    private static int end(Pattern pattern, String b, int p) {
        Matcher m = pattern.matcher(b).region(p, b.length());
        if (!m.lookingAt()) {
            throw new Fault(-5, goodPart(pattern, b, p));
        }
        return m.end();
    }

    private static Item read(String b) {
        end(LEADER, b, 0);
        if (Integer.parseInt(b.substring(0, 5)) != b.length()) {
            throw new Fault(-6, 0);
        }
        int base = end(ENTRIES, b, 24);
        if (Integer.parseInt(b.substring(12, 17)) != base) {
            throw new Fault(-6, 12);
        }
        List<Field> fields = new ArrayList<>();
        int p = base;
        for (int entry = 24; entry < base - 1; entry += 12) {
            String tag = b.substring(entry, entry + 3);
            if (tag.equals("001") ? entry != 24 : entry == 24) {
                throw new Fault(-7, entry);
            }
            if (Integer.parseInt(b.substring(entry + 7, entry + 12)) != p - base) {
                throw new Fault(-6, entry + 7);
            }
            int end = end(tag.startsWith("00") ? TEXT_FIELD : FIELD, b, p);
            if (Integer.parseInt(b.substring(entry + 3, entry + 7)) != end - p) {
                throw new Fault(-6, entry + 3);
            }
            fields.add(new Field(tag, b.substring(p, end - 1)));
            p = end;
        }
        if (p == b.length() || b.charAt(p) != 29) {
            throw new Fault(-5, p);
        }
        if (p + 1 != b.length()) {
            throw new Fault(-5, p + 1);
        }
        return new Item(b.substring(0, 24), fields);
    }

    private static void checkRecord(int record) {
        if (record < 0 || record > 9) {
            throw new IllegalArgumentException();
        }
    }

    boolean drop(int record) {
        checkRecord(record);
        found.remove(Integer.valueOf(record));
        return items.remove(record) != null;
    }

    int type(int a, int b, int c, int d, int e) {
        String more = unpack(a, b, c, d, e).replace("\0", "");
        if (line.length() + more.length() > 100) {
            throw new IllegalStateException();
        }
        line += more;
        return line.length();
    }

    int erase() {
        int gone = line.length();
        line = "";
        return gone;
    }

    int place() {
        return place;
    }

    int found(int k) {
        return k >= 0 && k < found.size() ? found.get(k) : -1;
    }

    int record(int record, int what) {
        checkRecord(record);
        if (what < 0 || what > 3) {
            throw new IllegalArgumentException();
        }
        Item item = items.get(record);
        if (item == null) {
            return -1;
        }
        return List.of(item.fields.size(), item.bytes().length(), item.date(),
                item.texts(0).size()).get(what);
    }

    int octet(int record, int k) {
        checkRecord(record);
        Item item = items.get(record);
        return item == null || k < 0 || k >= item.bytes().length() ? -1 : item.bytes().charAt(k);
    }

    private static List<String> wordsOf(String text, String letters) {
        List<String> words = new ArrayList<>();
        Matcher m = Pattern.compile("[" + letters + "]+").matcher(text);
        while (m.find()) {
            StringBuilder word = new StringBuilder();
            for (char c : m.group().toCharArray()) {
                word.append(c >= 'A' && c <= 'Z' ? (char) (c + 32) : c);
            }
            words.add(word.toString());
        }
        return words;
    }

    private static List<String> wordsOf(String text) {
        return wordsOf(text, "a-zA-Z0-9");
    }

    private static int year(String text) {
        Matcher m = Pattern.compile("[0-9]{4}").matcher(text);
        return m.find() ? Integer.parseInt(m.group()) : -1;
    }

    private List<Map.Entry<String, Set<Integer>>> lexicon(int index) {
        if (index < 0 || index > 5) {
            throw new IllegalArgumentException();
        }
        TreeMap<String, Set<Integer>> words = new TreeMap<>();
        items.forEach((number, item) -> item.texts(index).forEach(text -> wordsOf(text).forEach(
                w -> words.computeIfAbsent(w, x -> new TreeSet<>()).add(number))));
        return new ArrayList<>(words.entrySet());
    }

    int words(int index) {
        return lexicon(index).size();
    }

    char word(int index, int k, int i) {
        List<Map.Entry<String, Set<Integer>>> all = lexicon(index);
        if (k < 0 || k >= all.size() || i < 0 || i >= all.get(k).getKey().length()) {
            return ' ';
        }
        return all.get(k).getKey().charAt(i);
    }

    int hits(int index, int k) {
        List<Map.Entry<String, Set<Integer>>> all = lexicon(index);
        return k < 0 || k >= all.size() ? 0 : all.get(k).getValue().size();
    }

    int below(int index) {
        List<Map.Entry<String, Set<Integer>>> all = lexicon(index);
        List<String> mine = wordsOf(line);
        return mine.isEmpty() ? all.size()
                : (int) all.stream().filter(e -> e.getKey().compareTo(mine.get(0)) < 0).count();
    }

    // The QUERY, by recursive descent over tokens.

    private record Token(String text, int place) {
        boolean is(String word) {
            return lower(text).equals(word);
        }

        boolean isReserved() {
            return Set.of("and", "or", "not", "sortby", "descending").contains(lower(text));
        }

        boolean isPlain() {
            return !text.isEmpty() && "\"()/<=>".indexOf(text.charAt(0)) < 0;
        }

        boolean isName() {
            return isPlain() && !isReserved();
        }

        boolean isRelation() {
            return Set.of("=", "==", "<", ">", "<=", ">=", "any", "all", "adj", "exact")
                    .contains(lower(text));
        }

        boolean isOrder() {
            return Set.of("<", ">", "<=", ">=").contains(text);
        }
    }

    private static String lower(String text) {
        return text.chars().map(c -> c >= 'A' && c <= 'Z' ? c + 32 : c).collect(
                StringBuilder::new, StringBuilder::appendCodePoint, StringBuilder::append)
                .toString();
    }

    private List<Token> tokens;
    private int at;
    private final Map<Integer, Integer> softFaults = new LinkedHashMap<>();

    private Token now() {
        return tokens.get(Math.min(at, tokens.size() - 1));
    }

    private Fault sign() {
        return new Fault(-2, now().place);
    }

    private Predicate<Item> query(int depth) {
        Predicate<Item> left = clause(depth);
        while (now().is("and") || now().is("or") || now().is("not")) {
            String join = lower(now().text);
            at++;
            Predicate<Item> first = left;
            Predicate<Item> second = clause(depth);
            left = join.equals("and") ? first.and(second)
                    : join.equals("or") ? first.or(second) : first.and(second.negate());
        }
        return left;
    }

    private Predicate<Item> clause(int depth) {
        if (now().text.equals("(") && depth < 6) {
            at++;
            Predicate<Item> inner = query(depth + 1);
            if (!now().text.equals(")")) {
                throw sign();
            }
            at++;
            return inner;
        }
        Token next = tokens.get(Math.min(at + 1, tokens.size() - 1));
        if (now().isName() && next.isRelation()) {
            int index = index();
            if (index >= 0 && index != 4 && next.isOrder()) {
                softFaults.put(next.place, -4);
            }
            at++;
            return satisfied(index, lower(next.text), term());
        }
        return satisfied(0, "=", term());
    }

    private int index() {
        int index = INDEXES.indexOf(lower(now().text));
        if (index < 0) {
            softFaults.put(now().place, -3);
        }
        at++;
        return index;
    }

    private String term() {
        Token t = now();
        if (t.text.startsWith("\"")) {
            if (t.text.length() < 2 || !t.text.endsWith("\"")) {
                throw new Fault(-2, line.length());
            }
            at++;
            return t.text.substring(1, t.text.length() - 1);
        }
        if (!t.isName()) {
            throw sign();
        }
        at++;
        return t.text;
    }

    private static Predicate<Item> satisfied(int index, String relation, String term) {
        List<Pattern> words = new ArrayList<>();
        for (String w : wordsOf(term, "a-zA-Z0-9*?")) {
            words.add(Pattern.compile(w.replace("?", ".").replaceAll("\\*+", ".*")));
        }
        int year = year(term);
        return item -> {
            if ("<>".indexOf(relation.charAt(0)) >= 0) {
                int date = item.date();
                if (date < 0 || year < 0) {
                    return false;
                }
                int order = Integer.compare(date, year);
                return relation.length() == 2 && order == 0
                        || order == (relation.charAt(0) == '<' ? -1 : 1);
            }
            List<List<String>> texts = new ArrayList<>();
            item.texts(index).forEach(text -> texts.add(wordsOf(text)));
            Predicate<Pattern> somewhere = p -> texts.stream().flatMap(List::stream)
                    .anyMatch(w -> p.matcher(w).matches());
            if (words.isEmpty()) {
                return false;
            }
            switch (relation) {
                case "any": return words.stream().anyMatch(somewhere);
                case "all": return words.stream().allMatch(somewhere);
                case "=": case "adj":
                    return texts.stream().anyMatch(t -> {
                        for (int from = 0; from + words.size() <= t.size(); from++) {
                            if (isMatch(words, t.subList(from, from + words.size()))) {
                                return true;
                            }
                        }
                        return false;
                    });
                default: return texts.stream().anyMatch(t -> isMatch(words, t));
            }
        };
    }

    private static boolean isMatch(List<Pattern> patterns, List<String> words) {
        boolean match = patterns.size() == words.size();
        for (int i = 0; match && i < words.size(); i++) {
            match = patterns.get(i).matcher(words.get(i)).matches();
        }
        return match;
    }

    private int sortIndex;
    private boolean descending;

    private void sorting() {
        sortIndex = -1;
        descending = false;
        if (now().is("sortby")) {
            at++;
            if (!now().isName()) {
                throw sign();
            }
            sortIndex = index();
            if (now().text.equals("/")) {
                at++;
                if (!now().is("descending")) {
                    throw sign();
                }
                descending = true;
                at++;
            }
        }
        if (!now().text.isEmpty()) {
            throw sign();
        }
    }

    private static int compareTexts(List<String> a, List<String> b) {
        return Arrays.compare(a.toArray(new String[0]), b.toArray(new String[0]));
    }

    private void sort(List<Integer> numbers) {
        List<Integer> with = new ArrayList<>();
        List<Integer> without = new ArrayList<>();
        Map<Integer, List<String>> keys = new HashMap<>();
        for (int n : numbers) {
            List<String> texts = items.get(n).texts(sortIndex);
            boolean has = sortIndex == 4 ? items.get(n).date() >= 0 : !texts.isEmpty();
            (has ? with : without).add(n);
            keys.put(n, sortIndex == 4 || texts.isEmpty() ? List.of() : wordsOf(texts.get(0)));
        }
        Comparator<Integer> order = sortIndex == 4
                ? Comparator.comparingInt(n -> items.get(n).date())
                : (m, n) -> compareTexts(keys.get(m), keys.get(n));
        with.sort(descending ? order.reversed() : order);
        numbers.clear();
        numbers.addAll(with);
        numbers.addAll(without);
    }

    int search() {
        tokens = new ArrayList<>();
        Matcher m = Pattern.compile("\"[^\"]*\"?|[<>=]=|[()/<>=]|[^ \"()/<>=]+").matcher(line);
        while (m.find()) {
            tokens.add(new Token(m.group(), m.start()));
        }
        tokens.add(new Token("", line.length()));
        at = 0;
        softFaults.clear();
        try {
            Predicate<Item> asked = query(0);
            sorting();
            if (!softFaults.isEmpty()) {
                int first = softFaults.keySet().stream().min(Integer::compare).orElse(0);
                throw new Fault(softFaults.get(first), first);
            }
            List<Integer> numbers = new ArrayList<>();
            items.forEach((n, item) -> {
                if (asked.test(item)) {
                    numbers.add(n);
                }
            });
            if (sortIndex >= 0) {
                sort(numbers);
            }
            found = numbers;
            place = -1;
            return found.size();
        } catch (Fault f) {
            place = f.place;
            return f.kind;
        }
    }
}
