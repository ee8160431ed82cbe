import java.util.Arrays;

/**
 * A library's catalogue: records come as bytes of ISO 2709 and are looked through, a line of a
 * query language asks for them, and the words of each index can be gone through.
 */
public final class CatalogQuery {
    public static final int NONE = -1;
    public static final int SIGN = -2;
    public static final int INDEX = -3;
    public static final int RELATION = -4;
    public static final int FORM = -5;
    public static final int LENGTH = -6;
    public static final int FIELD = -7;
    public static final int TWICE = -8;
    public static final int FULL = -9;

    private static final int NO_FAULT = 0;
    /** What a comparison answers for what is not there, which is like nothing else. */
    private static final int NO_ORDER = 1;

    private static final int MOST_BYTES = 400;
    private static final int MOST_FED = 16;
    private static final int MOST_CHARACTERS = 100;
    private static final int MOST_RECORDS = 10;
    private static final int MOST_OPEN = 6;

    private static final int ANY = 0;
    private static final int TITLE = 1;
    private static final int AUTHOR = 2;
    private static final int SUBJECT = 3;
    private static final int DATE = 4;
    private static final int ID = 5;
    private static final int INDEX_COUNT = 6;

    private static final int FIELD_COUNT = 0;
    private static final int RECORD_LENGTH = 1;
    private static final int RECORD_DATE = 2;
    private static final int TEXT_COUNT = 3;

    private static final char RECORD_END = 29;
    private static final char FIELD_END = 30;
    private static final char SUBFIELD_MARK = 31;

    private static final int LEADER_LENGTH = 24;
    private static final int ENTRY_LENGTH = 12;
    private static final int TAG_LENGTH = 3;
    private static final int LENGTH_AT = 3;
    private static final int LENGTH_LENGTH = 4;
    private static final int START_AT = 7;
    private static final int START_LENGTH = 5;
    private static final int INDICATORS = 2;
    private static final int ID_TAG = 1;
    private static final int FIRST_TAG_WITH_SUBFIELDS = 10;

    private static final int SOME_WORD = 0;
    private static final int EVERY_WORD = 1;
    private static final int IN_A_ROW = 2;
    private static final int WHOLE_TEXT = 3;
    private static final int EARLIER = 4;
    private static final int LATER = 5;
    private static final int NOT_LATER = 6;
    private static final int NOT_EARLIER = 7;

    private final char[] bytes = new char[MOST_BYTES];
    private int byteCount;
    private final char[] line = new char[MOST_CHARACTERS];
    private int lineLength;
    private final Holding[] shelf = new Holding[MOST_RECORDS];
    private final int[] foundRecords = new int[MOST_RECORDS];
    private int foundCount;
    private int faultPlace = NONE;
    private final Inspector inspector = new Inspector();
    private final Query query = new Query();
    private final Judge judge = new Judge();
    private final Sorter sorter = new Sorter();
    private final Lexicon[] lexicons = new Lexicon[INDEX_COUNT];
    private final Words scratch = new Words(MOST_BYTES);

    public CatalogQuery() {
        for (int i = 0; i < lexicons.length; i++) {
            lexicons[i] = new Lexicon();
        }
    }

    public int feed(int many, int a, int b, int c, int d)
            throws IllegalArgumentException, IllegalStateException {
        if (many < 0 || many > MOST_FED) {
            throw new IllegalArgumentException("many is not 0 .. 16");
        }
        if (byteCount + many > MOST_BYTES) {
            throw new IllegalStateException("there would be more than 400 bytes");
        }
        addBytes(a, many);
        addBytes(b, many - 4);
        addBytes(c, many - 8);
        addBytes(d, many - 12);
        return byteCount;
    }

    public int cut(int n) throws IllegalArgumentException {
        if (n < 0 || n > byteCount) {
            throw new IllegalArgumentException("there are not so many bytes");
        }
        int gone = byteCount - n;
        byteCount = n;
        return gone;
    }

    public int load() {
        int fault = inspector.inspect(bytes, byteCount);
        if (fault != NO_FAULT) {
            faultPlace = inspector.faultPlace;
            return fault;
        }
        if (isTwice()) {
            faultPlace = inspector.base;
            return TWICE;
        }
        int number = leastFreeNumber();
        if (number == NONE) {
            faultPlace = 0;
            return FULL;
        }
        faultPlace = NONE;
        shelf[number] = new Holding(bytes, byteCount, inspector.entries, inspector.base);
        makeLexiconsStale();
        return number;
    }

    public boolean drop(int record) throws IllegalArgumentException {
        checkRecord(record);
        if (shelf[record] == null) {
            return false;
        }
        shelf[record] = null;
        makeLexiconsStale();
        forgetFound(record);
        return true;
    }

    public int type(int a, int b, int c, int d, int e) throws IllegalStateException {
        int more = charactersIn(a) + charactersIn(b) + charactersIn(c) + charactersIn(d)
                + charactersIn(e);
        if (lineLength + more > MOST_CHARACTERS) {
            throw new IllegalStateException("the line would have more than 100 characters");
        }
        addCharacters(a);
        addCharacters(b);
        addCharacters(c);
        addCharacters(d);
        addCharacters(e);
        return lineLength;
    }

    public int erase() {
        int gone = lineLength;
        lineLength = 0;
        return gone;
    }

    public int search() {
        int fault = query.read(line, lineLength);
        if (fault != NO_FAULT) {
            faultPlace = query.faultPlace;
            return fault;
        }
        faultPlace = NONE;
        for (int i = 0; i < query.clauseCount && i < query.clauses.length; i++) {
            judge.answer(query.clauses[i], line, shelf);
        }
        keepFound(query.joinedAnswer());
        if (query.sortIndex != NONE) {
            sorter.sort(foundRecords, foundCount, shelf, query.sortIndex, query.descending);
        }
        return foundCount;
    }

    public int place() {
        return faultPlace;
    }

    public int found(int k) {
        return k >= 0 && k < foundCount && k < foundRecords.length ? foundRecords[k] : NONE;
    }

    public int record(int record, int what) throws IllegalArgumentException {
        checkRecord(record);
        if (what < FIELD_COUNT || what > TEXT_COUNT) {
            throw new IllegalArgumentException("what is not 0 .. 3");
        }
        Holding holding = shelf[record];
        if (holding == null) {
            return NONE;
        }
        if (what == FIELD_COUNT) {
            return holding.fields;
        }
        if (what == RECORD_LENGTH) {
            return holding.octets.length;
        }
        return what == RECORD_DATE ? holding.date() : holding.textsIn(ANY);
    }

    public int octet(int record, int k) throws IllegalArgumentException {
        checkRecord(record);
        Holding holding = shelf[record];
        if (holding == null || k < 0 || k >= holding.octets.length) {
            return NONE;
        }
        return holding.octets[k];
    }

    public int words(int index) throws IllegalArgumentException {
        checkIndex(index);
        return freshLexicon(index).size;
    }

    public char word(int index, int k, int i) throws IllegalArgumentException {
        checkIndex(index);
        return freshLexicon(index).character(k, i);
    }

    public int hits(int index, int k) throws IllegalArgumentException {
        checkIndex(index);
        return freshLexicon(index).holderCount(k);
    }

    public int below(int index) throws IllegalArgumentException {
        checkIndex(index);
        Lexicon lexicon = freshLexicon(index);
        scratch.read(line, 0, lineLength, false);
        return scratch.size == 0 ? lexicon.size : lexicon.countBefore(scratch, 0);
    }

    private static void checkRecord(int record) {
        if (record < 0 || record >= MOST_RECORDS) {
            throw new IllegalArgumentException("record is not 0 .. 9");
        }
    }

    private static void checkIndex(int index) {
        if (index < 0 || index >= INDEX_COUNT) {
            throw new IllegalArgumentException("index is not 0 .. 5");
        }
    }

    private static char byteOf(int number, int i) {
        return (char) ((number >>> (24 - 8 * i)) & 255);
    }

    private void addBytes(int number, int many) {
        for (int i = 0; i < 4 && i < many && byteCount < bytes.length; i++) {
            bytes[byteCount] = byteOf(number, i);
            byteCount++;
        }
    }

    private static int charactersIn(int number) {
        int many = 0;
        for (int i = 0; i < 4; i++) {
            if (byteOf(number, i) != 0) {
                many++;
            }
        }
        return many;
    }

    private void addCharacters(int number) {
        for (int i = 0; i < 4 && lineLength < line.length; i++) {
            char c = byteOf(number, i);
            if (c != 0) {
                line[lineLength] = c;
                lineLength++;
            }
        }
    }

    private boolean isTwice() {
        for (int r = 0; r < shelf.length; r++) {
            Holding holding = shelf[r];
            if (holding != null && holding.hasId(bytes, inspector.base, inspector.idEnd)) {
                return true;
            }
        }
        return false;
    }

    private int leastFreeNumber() {
        for (int r = 0; r < shelf.length; r++) {
            if (shelf[r] == null) {
                return r;
            }
        }
        return NONE;
    }

    private void forgetFound(int record) {
        int kept = 0;
        for (int k = 0; k < foundCount && k < foundRecords.length; k++) {
            if (foundRecords[k] != record) {
                foundRecords[kept] = foundRecords[k];
                kept++;
            }
        }
        foundCount = kept;
    }

    private void keepFound(int records) {
        foundCount = 0;
        for (int r = 0; r < foundRecords.length; r++) {
            if ((records >> r & 1) == 1) {
                foundRecords[foundCount] = r;
                foundCount++;
            }
        }
    }

    private void makeLexiconsStale() {
        for (int i = 0; i < lexicons.length; i++) {
            lexicons[i].stale = true;
        }
    }

    /** Lexicons are made anew only when asked for, as most runs ask for few of them. */
    private Lexicon freshLexicon(int index) {
        Lexicon lexicon = lexicons[index];
        if (lexicon.stale) {
            lexicon.rebuild(shelf, index, scratch);
        }
        return lexicon;
    }

    private static boolean isDigit(int c) {
        return c >= '0' && c <= '9';
    }

    private static boolean isSmallLetter(int c) {
        return c >= 'a' && c <= 'z';
    }

    private static char small(char c) {
        return c >= 'A' && c <= 'Z' ? (char) (c + 'a' - 'A') : c;
    }

    /** The number that digits make; what lies outside the row counts as no digits. */
    private static int numberAt(char[] row, int from, int many) {
        int number = 0;
        for (int p = from; p < from + many; p++) {
            if (p >= 0 && p < row.length) {
                number = 10 * number + (row[p] - '0');
            }
        }
        return number;
    }

    /** The first four digits that stand together, as a number, or NONE. */
    private static int yearIn(char[] text, int from, int to) {
        int number = 0;
        int digits = 0;
        for (int p = from; p < to; p++) {
            if (p < 0 || p >= text.length || !isDigit(text[p])) {
                number = 0;
                digits = 0;
                continue;
            }
            number = 10 * number + (text[p] - '0');
            digits++;
            if (digits == 4) {
                return number;
            }
        }
        return NONE;
    }

    /** By characters' numbers, a beginning before the longer one. */
    private static int compareSpans(char[] a, int aFrom, int aTo, char[] b, int bFrom, int bTo) {
        if (aFrom < 0 || aTo > a.length || bFrom < 0 || bTo > b.length) {
            return NO_ORDER;
        }
        int aLength = aTo - aFrom;
        int bLength = bTo - bFrom;
        for (int i = 0; i < aLength && i < bLength; i++) {
            if (a[aFrom + i] != b[bFrom + i]) {
                return a[aFrom + i] - b[bFrom + i];
            }
        }
        return aLength - bLength;
    }

    /** Looks through BYTES for the first FAULT, in the document's order. */
    private static final class Inspector {
        private static final int LACKING = -1;
        /** What stands in a LEADER where only one byte can: the other places are not looked at. */
        private static final String LEADER_PATTERN = "-------- -22-----   4500";

        private char[] bytes = new char[0];
        private int count;
        private int faultPlace;
        private int entries;
        private int base;
        private int idEnd;
        private int fieldEnd;

        int inspect(char[] someBytes, int many) {
            bytes = someBytes;
            count = Math.min(many, someBytes.length);
            int fault = leaderFault();
            if (fault == NO_FAULT) {
                fault = entriesFault();
            }
            if (fault == NO_FAULT) {
                fault = fieldsFault();
            }
            return fault == NO_FAULT ? endFault() : fault;
        }

        private int fault(int kind, int where) {
            faultPlace = where;
            return kind;
        }

        /** LACKING fits nowhere, so a scan from the left stops at count by itself. */
        private int byteAt(int p) {
            return p >= 0 && p < count ? bytes[p] : LACKING;
        }

        private int leaderFault() {
            for (int p = 0; p < LEADER_LENGTH; p++) {
                if (!fitsLeader(p, byteAt(p))) {
                    return fault(FORM, p);
                }
            }
            return numberAt(bytes, 0, 5) == count ? NO_FAULT : fault(LENGTH, 0);
        }

        private static boolean fitsLeader(int p, int c) {
            if (p <= 4 || p >= 12 && p <= 16) {
                return isDigit(c);
            }
            if (p == 5) {
                return c == 'a' || c == 'c' || c == 'd' || c == 'n' || c == 'p';
            }
            if (p == 6 || p == 7) {
                return isSmallLetter(c);
            }
            if (p == 9) {
                return c == ' ' || c == 'a';
            }
            return p < LEADER_PATTERN.length() && c == LEADER_PATTERN.charAt(p);
        }

        private int entriesFault() {
            int end = count;
            for (int p = LEADER_LENGTH; p < count; p++) {
                if (byteAt(p) == FIELD_END && isBehindEntry(p)) {
                    end = p;
                    break;
                }
                if (!isDigit(byteAt(p))) {
                    return fault(FORM, p);
                }
            }
            if (end == count) {
                return fault(FORM, count);
            }
            entries = (end - LEADER_LENGTH) / ENTRY_LENGTH;
            base = end + 1;
            return numberAt(bytes, 12, 5) == base ? NO_FAULT : fault(LENGTH, 12);
        }

        private static boolean isBehindEntry(int p) {
            return p > LEADER_LENGTH && (p - LEADER_LENGTH) % ENTRY_LENGTH == 0;
        }

        private int fieldsFault() {
            fieldEnd = base - 1;
            for (int e = 0; e < entries; e++) {
                int fault = fieldFault(e, LEADER_LENGTH + e * ENTRY_LENGTH, fieldEnd + 1);
                if (fault != NO_FAULT) {
                    return fault;
                }
                if (e == 0) {
                    idEnd = fieldEnd;
                }
            }
            return NO_FAULT;
        }

        private int fieldFault(int number, int entry, int start) {
            int tag = numberAt(bytes, entry, TAG_LENGTH);
            if ((number == 0) != (tag == ID_TAG)) {
                return fault(FIELD, entry);
            }
            if (base + numberAt(bytes, entry + START_AT, START_LENGTH) != start) {
                return fault(LENGTH, entry + START_AT);
            }
            if (!findFieldEnd(start, tag >= FIRST_TAG_WITH_SUBFIELDS)) {
                return fault(FORM, fieldEnd);
            }
            if (numberAt(bytes, entry + LENGTH_AT, LENGTH_LENGTH) != fieldEnd + 1 - start) {
                return fault(LENGTH, entry + LENGTH_AT);
            }
            return NO_FAULT;
        }

        /** Sets fieldEnd to the FIELD's 30, or to what cannot be there: then it says no. */
        private boolean findFieldEnd(int start, boolean withSubfields) {
            for (int p = start; p <= count; p++) {
                int c = byteAt(p);
                if (withSubfields ? !fitsSubfields(p, p - start, c) : !isText(c)) {
                    fieldEnd = p;
                    return c == FIELD_END && canEnd(p, p - start, withSubfields);
                }
            }
            fieldEnd = count;
            return false;
        }

        private boolean fitsSubfields(int p, int distance, int c) {
            if (distance < INDICATORS) {
                return c == ' ' || isDigit(c);
            }
            if (distance == INDICATORS) {
                return c == SUBFIELD_MARK;
            }
            if (byteAt(p - 1) == SUBFIELD_MARK) {
                return isSmallLetter(c) || isDigit(c);
            }
            return c == SUBFIELD_MARK || isText(c);
        }

        private boolean canEnd(int p, int distance, boolean withSubfields) {
            return !withSubfields || distance > INDICATORS && byteAt(p - 1) != SUBFIELD_MARK;
        }

        private static boolean isText(int c) {
            return c >= 32 && c <= 126;
        }

        private int endFault() {
            int end = fieldEnd + 1;
            if (byteAt(end) != RECORD_END) {
                return fault(FORM, end);
            }
            return end + 1 == count ? NO_FAULT : fault(FORM, end + 1);
        }
    }

    /**
     * A RECORD. Its bytes are kept as they came: where no FAULT is found, what is made anew of
     * its FIELDS is the same, byte for byte.
     */
    private static final class Holding {
        private final char[] octets;
        private final int fields;
        private final int[] textIndexes;
        private final int[] textStarts;
        private final int[] textEnds;
        /** How many characters title leaves out at the front of each TEXT. */
        private final int[] leftOut;
        private int textCount;

        Holding(char[] bytes, int count, int entries, int base) {
            int length = Math.max(0, Math.min(count, bytes.length));
            octets = new char[length];
            System.arraycopy(bytes, 0, octets, 0, length);
            fields = entries;
            int most = 1 + marksIn(octets);
            textIndexes = new int[most];
            textStarts = new int[most];
            textEnds = new int[most];
            leftOut = new int[most];
            readTexts(base);
        }

        private static int marksIn(char[] octets) {
            int many = 0;
            for (int p = 0; p < octets.length; p++) {
                if (octets[p] == SUBFIELD_MARK) {
                    many++;
                }
            }
            return many;
        }

        private void readTexts(int base) {
            for (int e = 0; e < fields; e++) {
                int entry = LEADER_LENGTH + e * ENTRY_LENGTH;
                int tag = numberAt(octets, entry, TAG_LENGTH);
                int start = base + numberAt(octets, entry + START_AT, START_LENGTH);
                int end = start + numberAt(octets, entry + LENGTH_AT, LENGTH_LENGTH) - 1;
                if (tag == ID_TAG) {
                    addText(ID, start, end);
                } else if (tag >= FIRST_TAG_WITH_SUBFIELDS) {
                    readSubfields(tag, start, end);
                }
            }
        }

        private void readSubfields(int tag, int start, int end) {
            for (int p = start + INDICATORS; p < end && p + 1 < octets.length; p++) {
                if (octets[p] == SUBFIELD_MARK) {
                    char code = octets[p + 1];
                    addText(indexOf(tag, code), p + 2, p + 2);
                    if (code == 'a' && isDigit(octets[start + 1])) {
                        leaveOut(octets[start + 1] - '0');
                    }
                } else {
                    endText(p + 1);
                }
            }
        }

        /** The INDEX that a SUBFIELD belongs to beside any; any itself if there is none. */
        private static int indexOf(int tag, char code) {
            if (tag == 245 && (code == 'a' || code == 'b')) {
                return TITLE;
            }
            if ((tag == 100 || tag == 700) && code == 'a') {
                return AUTHOR;
            }
            if (tag == 650 && code == 'a') {
                return SUBJECT;
            }
            return tag == 260 && code == 'c' ? DATE : ANY;
        }

        private void addText(int index, int start, int end) {
            if (textCount < textStarts.length) {
                textIndexes[textCount] = index;
                textStarts[textCount] = start;
                textEnds[textCount] = end;
                textCount++;
            }
        }

        private void leaveOut(int many) {
            if (textCount > 0) {
                leftOut[textCount - 1] = many;
            }
        }

        private void endText(int end) {
            if (textCount > 0) {
                textEnds[textCount - 1] = end;
            }
        }

        boolean isTextIn(int t, int index) {
            if (t < 0 || t >= textCount) {
                return false;
            }
            return index == ANY ? textIndexes[t] != ID : textIndexes[t] == index;
        }

        int textStart(int t, int index) {
            if (t < 0 || t >= textCount) {
                return 0;
            }
            int start = textStarts[t];
            return index == TITLE ? Math.min(start + leftOut[t], textEnds[t]) : start;
        }

        int textEnd(int t) {
            return t >= 0 && t < textCount ? textEnds[t] : 0;
        }

        int textsIn(int index) {
            int many = 0;
            for (int t = 0; t < textCount; t++) {
                if (isTextIn(t, index)) {
                    many++;
                }
            }
            return many;
        }

        int firstTextIn(int index) {
            for (int t = 0; t < textCount; t++) {
                if (isTextIn(t, index)) {
                    return t;
                }
            }
            return NONE;
        }

        int date() {
            for (int t = 0; t < textCount; t++) {
                int year = isTextIn(t, DATE) ? yearIn(octets, textStarts[t], textEnds[t]) : NONE;
                if (year != NONE) {
                    return year;
                }
            }
            return NONE;
        }

        boolean hasId(char[] bytes, int from, int to) {
            int t = firstTextIn(ID);
            return t != NONE
                    && compareSpans(octets, textStarts[t], textEnds[t], bytes, from, to) == 0;
        }
    }

    /** The WORDS of one text, in small letters; those of a TERM may have signs in them. */
    private static final class Words {
        private static final char NO_LETTER = 0;

        private final char[] letters;
        private final int[] starts;
        private final int[] ends;
        private int size;

        Words(int longestText) {
            int longest = Math.max(0, longestText);
            letters = new char[longest];
            starts = new int[longest / 2 + 1];
            ends = new int[longest / 2 + 1];
        }

        void read(char[] text, int from, int to, boolean withSigns) {
            size = 0;
            boolean inWord = false;
            int many = Math.min(Math.min(to, text.length) - from, letters.length);
            for (int i = 0; i < many && from >= 0; i++) {
                letters[i] = letterOf(text[from + i], withSigns);
                if (letters[i] == NO_LETTER) {
                    inWord = false;
                } else if (inWord) {
                    ends[size - 1] = i + 1;
                } else if (size < starts.length) {
                    starts[size] = i;
                    ends[size] = i + 1;
                    size++;
                    inWord = true;
                }
            }
        }

        void readText(Holding holding, int t, int index) {
            read(holding.octets, holding.textStart(t, index), holding.textEnd(t), false);
        }

        private static char letterOf(char c, boolean withSigns) {
            char letter = small(c);
            if (isSmallLetter(letter) || isDigit(letter)) {
                return letter;
            }
            return withSigns && (c == '*' || c == '?') ? c : NO_LETTER;
        }

        int compareWord(int i, Words other, int j) {
            if (i < 0 || i >= size || j < 0 || j >= other.size) {
                return NO_ORDER;
            }
            return compareSpans(letters, starts[i], ends[i],
                    other.letters, other.starts[j], other.ends[j]);
        }

        int compareAll(Words other) {
            for (int i = 0; i < size && i < other.size; i++) {
                int order = compareWord(i, other, i);
                if (order != 0) {
                    return order;
                }
            }
            return Integer.compare(size, other.size);
        }

        boolean hasSigns(int i) {
            if (i < 0 || i >= size) {
                return false;
            }
            for (int p = starts[i]; p < ends[i]; p++) {
                if (letters[p] == '*' || letters[p] == '?') {
                    return true;
                }
            }
            return false;
        }
    }

    /** THE LINE cut into NAMES, quoted TERMS and signs, each with its place. */
    private static final class Tokens {
        private static final int NAME = 1;
        private static final int QUOTED = 2;
        private static final int UNCLOSED = 3;
        private static final int COMPARISON = 4;
        private static final int SLASH = 5;
        private static final int LINE_END = 6;
        private static final int SORTBY = 7;
        private static final int DESCENDING = 8;
        private static final int OPEN = 9;
        private static final int CLOSE = 10;
        private static final int AND = 11;
        private static final int OR = 12;
        private static final int NOT = 13;

        private char[] line = new char[0];
        private int length;
        private final int[] kinds = new int[MOST_CHARACTERS];
        private final int[] starts = new int[MOST_CHARACTERS];
        private final int[] ends = new int[MOST_CHARACTERS];
        private int count;

        void read(char[] someLine, int many) {
            line = someLine;
            length = Math.min(many, someLine.length);
            count = 0;
            int p = 0;
            while (p < length) {
                if (line[p] == ' ') {
                    p++;
                } else {
                    int end = Math.max(p + 1, endOfToken(p));
                    add(kindOf(p, end), p, end);
                    p = end;
                }
            }
        }

        private void add(int kind, int start, int end) {
            if (count < kinds.length) {
                kinds[count] = kind;
                starts[count] = start;
                ends[count] = end;
                count++;
            }
        }

        int kindAt(int t) {
            return t >= 0 && t < count ? kinds[t] : LINE_END;
        }

        int startAt(int t) {
            return t >= 0 && t < count ? starts[t] : length;
        }

        int endAt(int t) {
            return t >= 0 && t < count ? ends[t] : length;
        }

        /** Behind the end it is 0, which THE LINE never has. */
        private char characterAt(int p) {
            return p >= 0 && p < length ? line[p] : 0;
        }

        private int endOfToken(int start) {
            char c = characterAt(start);
            if (c == '"') {
                return endOfQuoted(start);
            }
            if (isComparison(c)) {
                return characterAt(start + 1) == '=' ? start + 2 : start + 1;
            }
            int end = start;
            while (end < length && isInName(characterAt(end))) {
                end++;
            }
            return end;
        }

        private int endOfQuoted(int start) {
            for (int p = start + 1; p < length; p++) {
                if (characterAt(p) == '"') {
                    return p + 1;
                }
            }
            return length;
        }

        private static boolean isComparison(char c) {
            return c == '<' || c == '=' || c == '>';
        }

        private static boolean isInName(char c) {
            return c != ' ' && c != '"' && c != '(' && c != ')' && c != '/' && !isComparison(c);
        }

        private int kindOf(int start, int end) {
            char c = characterAt(start);
            if (isInName(c)) {
                return kindOfName(start, end);
            }
            if (isComparison(c)) {
                return COMPARISON;
            }
            if (c == '"') {
                return end - start > 1 && characterAt(end - 1) == '"' ? QUOTED : UNCLOSED;
            }
            return c == '(' ? OPEN : c == ')' ? CLOSE : SLASH;
        }

        private int kindOfName(int start, int end) {
            if (isWritten(start, end, "and")) {
                return AND;
            }
            if (isWritten(start, end, "or")) {
                return OR;
            }
            if (isWritten(start, end, "not")) {
                return NOT;
            }
            if (isWritten(start, end, "sortby")) {
                return SORTBY;
            }
            return isWritten(start, end, "descending") ? DESCENDING : NAME;
        }

        private boolean isWritten(int start, int end, String name) {
            if (end - start != name.length()) {
                return false;
            }
            for (int i = 0; i < name.length(); i++) {
                if (small(characterAt(start + i)) != name.charAt(i)) {
                    return false;
                }
            }
            return true;
        }

        int indexAt(int t) {
            for (int i = 0; i < INDEX_COUNT; i++) {
                if (isWritten(startAt(t), endAt(t), indexName(i))) {
                    return i;
                }
            }
            return NONE;
        }

        private static String indexName(int index) {
            switch (index) {
                case ANY: return "any";
                case TITLE: return "title";
                case AUTHOR: return "author";
                case SUBJECT: return "subject";
                case DATE: return "date";
                default: return "id";
            }
        }

        int relationAt(int t) {
            int start = startAt(t);
            int end = endAt(t);
            if (kindAt(t) == COMPARISON) {
                return comparison(characterAt(start), end - start == 2);
            }
            if (kindAt(t) != NAME) {
                return NONE;
            }
            if (isWritten(start, end, "any")) {
                return SOME_WORD;
            }
            if (isWritten(start, end, "all")) {
                return EVERY_WORD;
            }
            if (isWritten(start, end, "adj")) {
                return IN_A_ROW;
            }
            return isWritten(start, end, "exact") ? WHOLE_TEXT : NONE;
        }

        private static int comparison(char first, boolean withEquals) {
            if (first == '<') {
                return withEquals ? NOT_LATER : EARLIER;
            }
            if (first == '>') {
                return withEquals ? NOT_EARLIER : LATER;
            }
            return withEquals ? WHOLE_TEXT : IN_A_ROW;
        }
    }

    /** A CLAUSE of a QUERY that is no bracket, and the RECORDS that satisfy it, a bit for each. */
    private static final class Clause {
        private int index;
        private int relation;
        private int termStart;
        private int termEnd;
        private int records;
    }

    /** Reads THE LINE as a QUERY: into CLAUSES, and steps that join them from the left on. */
    private static final class Query {
        private static final int CLAUSE_STEP = 0;
        /** A CLAUSE and the word that joins it to the one before need more than two characters. */
        private static final int MOST_CLAUSES = MOST_CHARACTERS / 2;

        private final Tokens tokens = new Tokens();
        private int now;
        private final int[] steps = new int[MOST_CHARACTERS];
        private int stepCount;
        private final Clause[] clauses = new Clause[MOST_CLAUSES];
        private int clauseCount;
        private int sortIndex;
        private boolean descending;
        private int fault;
        private int faultPlace;
        private final int[] heldRecords = new int[MOST_OPEN + 1];
        private final int[] heldJoins = new int[MOST_OPEN + 1];

        Query() {
            for (int i = 0; i < clauses.length; i++) {
                clauses[i] = new Clause();
            }
        }

        int read(char[] line, int length) {
            tokens.read(line, length);
            now = 0;
            stepCount = 0;
            clauseCount = 0;
            sortIndex = NONE;
            descending = false;
            fault = NO_FAULT;
            if (!readsQuery()) {
                fault = SIGN;
                faultPlace = tokens.startAt(now);
            }
            return fault;
        }

        /** Where it says no, now is the token that cannot be there. */
        private boolean readsQuery() {
            int open = 0;
            boolean clauseDue = true;
            for (int turn = 0; turn <= tokens.count; turn++) {
                int kind = tokens.kindAt(now);
                if (clauseDue && kind == Tokens.OPEN && open < MOST_OPEN) {
                    open++;
                    takeStep(kind);
                } else if (clauseDue) {
                    if (!readsClause()) {
                        return false;
                    }
                    clauseDue = false;
                } else if (kind == Tokens.CLOSE && open > 0) {
                    open--;
                    takeStep(kind);
                } else if (isJoin(kind)) {
                    clauseDue = true;
                    takeStep(kind);
                } else {
                    return open == 0 && readsEnd();
                }
            }
            return false;
        }

        private static boolean isJoin(int kind) {
            return kind == Tokens.AND || kind == Tokens.OR || kind == Tokens.NOT;
        }

        private void takeStep(int step) {
            if (stepCount < steps.length) {
                steps[stepCount] = step;
                stepCount++;
            }
            now++;
        }

        private boolean readsClause() {
            int relation = tokens.relationAt(now + 1);
            if (tokens.kindAt(now) != Tokens.NAME || relation == NONE) {
                return readsTerm(ANY, IN_A_ROW);
            }
            int index = readIndex();
            if (index != NONE && index != DATE && relation >= EARLIER) {
                note(RELATION);
            }
            now++;
            return readsTerm(index, relation);
        }

        private int readIndex() {
            int index = tokens.indexAt(now);
            if (index == NONE) {
                note(INDEX);
            }
            now++;
            return index;
        }

        private boolean readsTerm(int index, int relation) {
            int kind = tokens.kindAt(now);
            if (kind == Tokens.UNCLOSED) {
                // It may begin here: what is wrong is that THE LINE ends too soon.
                now = tokens.count;
            }
            if (kind != Tokens.NAME && kind != Tokens.QUOTED) {
                return false;
            }
            int quotes = kind == Tokens.QUOTED ? 1 : 0;
            if (clauseCount < clauses.length) {
                Clause clause = clauses[clauseCount];
                clause.index = index;
                clause.relation = relation;
                clause.termStart = tokens.startAt(now) + quotes;
                clause.termEnd = tokens.endAt(now) - quotes;
                clauseCount++;
            }
            takeStep(CLAUSE_STEP);
            return true;
        }

        private boolean readsEnd() {
            if (tokens.kindAt(now) == Tokens.SORTBY) {
                now++;
                if (tokens.kindAt(now) != Tokens.NAME) {
                    return false;
                }
                sortIndex = readIndex();
                if (tokens.kindAt(now) == Tokens.SLASH) {
                    now++;
                    descending = tokens.kindAt(now) == Tokens.DESCENDING;
                    if (!descending) {
                        return false;
                    }
                    now++;
                }
            }
            return tokens.kindAt(now) == Tokens.LINE_END;
        }

        /** THE LINE is read from the left, so the first that is noted is the one that counts. */
        private void note(int kindOfFault) {
            if (fault == NO_FAULT) {
                fault = kindOfFault;
                faultPlace = tokens.startAt(now);
            }
        }

        /** The RECORDS that satisfy the whole, once each CLAUSE has its own. */
        int joinedAnswer() {
            int open = 0;
            int next = 0;
            hold(open, 0, Tokens.OR);
            for (int s = 0; s < stepCount && s < steps.length; s++) {
                int step = steps[s];
                if (step == Tokens.OPEN) {
                    open++;
                    hold(open, 0, Tokens.OR);
                } else if (step == Tokens.CLOSE) {
                    open--;
                    join(open, heldAt(open + 1));
                } else if (step == CLAUSE_STEP) {
                    join(open, next < clauses.length ? clauses[next].records : 0);
                    next++;
                } else {
                    hold(open, heldAt(open), step);
                }
            }
            return heldAt(0);
        }

        private void hold(int open, int records, int joinedBy) {
            if (open >= 0 && open < heldRecords.length) {
                heldRecords[open] = records;
                heldJoins[open] = joinedBy;
            }
        }

        private int heldAt(int open) {
            return open >= 0 && open < heldRecords.length ? heldRecords[open] : 0;
        }

        private void join(int open, int records) {
            if (open < 0 || open >= heldRecords.length) {
                return;
            }
            if (heldJoins[open] == Tokens.AND) {
                heldRecords[open] &= records;
            } else if (heldJoins[open] == Tokens.NOT) {
                heldRecords[open] &= ~records;
            } else {
                heldRecords[open] |= records;
            }
        }
    }

    /** Finds which RECORDS satisfy a CLAUSE. */
    private static final class Judge {
        private final Words term = new Words(MOST_CHARACTERS);
        private final Words text = new Words(MOST_BYTES);
        private final boolean[] met = new boolean[MOST_CHARACTERS];
        private final boolean[] reached = new boolean[MOST_CHARACTERS + 1];
        private int year;

        void answer(Clause clause, char[] line, Holding[] shelf) {
            term.read(line, clause.termStart, clause.termEnd, true);
            year = yearIn(line, clause.termStart, clause.termEnd);
            clause.records = 0;
            for (int r = 0; r < shelf.length; r++) {
                if (shelf[r] != null && satisfies(shelf[r], clause.index, clause.relation)) {
                    clause.records |= 1 << r;
                }
            }
        }

        private boolean satisfies(Holding holding, int index, int relation) {
            if (relation >= EARLIER) {
                return isDated(holding.date(), relation);
            }
            if (term.size == 0) {
                return false;
            }
            if (relation == SOME_WORD) {
                return countMet(holding, index) > 0;
            }
            if (relation == EVERY_WORD) {
                return countMet(holding, index) == term.size;
            }
            return isInOneText(holding, index, relation == WHOLE_TEXT);
        }

        private boolean isDated(int date, int relation) {
            if (date == NONE || year == NONE) {
                return false;
            }
            switch (relation) {
                case EARLIER: return date < year;
                case LATER: return date > year;
                case NOT_LATER: return date <= year;
                default: return date >= year;
            }
        }

        private int countMet(Holding holding, int index) {
            for (int i = 0; i < met.length; i++) {
                met[i] = false;
            }
            for (int t = 0; t < holding.textCount; t++) {
                if (holding.isTextIn(t, index)) {
                    text.readText(holding, t, index);
                    meetText();
                }
            }
            int many = 0;
            for (int i = 0; i < met.length; i++) {
                if (met[i]) {
                    many++;
                }
            }
            return many;
        }

        private void meetText() {
            for (int i = 0; i < term.size && i < met.length; i++) {
                for (int j = 0; j < text.size && !met[i]; j++) {
                    met[i] = matches(i, j);
                }
            }
        }

        private boolean isInOneText(Holding holding, int index, boolean whole) {
            for (int t = 0; t < holding.textCount; t++) {
                if (holding.isTextIn(t, index)) {
                    text.readText(holding, t, index);
                    int surplus = text.size - term.size;
                    int last = whole && surplus > 0 ? NONE : surplus;
                    for (int j = 0; j <= last; j++) {
                        if (matchesFrom(j)) {
                            return true;
                        }
                    }
                }
            }
            return false;
        }

        private boolean matchesFrom(int j) {
            for (int i = 0; i < term.size; i++) {
                if (!matches(i, j + i)) {
                    return false;
                }
            }
            return true;
        }

        private boolean matches(int i, int j) {
            return term.hasSigns(i) ? matchesBySigns(i, j) : term.compareWord(i, text, j) == 0;
        }

        /**
         * reached[q] tells whether the first q signs of the TERM's WORD can stand for what has
         * been read of the other one: a row for each letter needs no going back.
         */
        private boolean matchesBySigns(int i, int j) {
            if (i < 0 || i >= term.size || j < 0 || j >= text.size) {
                return false;
            }
            int start = term.starts[i];
            int many = Math.min(term.ends[i] - start, reached.length - 1);
            reached[0] = true;
            for (int q = 1; q <= many; q++) {
                reached[q] = reached[q - 1] && term.letters[start + q - 1] == '*';
            }
            for (int p = text.starts[j]; p < text.ends[j]; p++) {
                readLetter(text.letters[p], start, many);
            }
            return reached[many];
        }

        private void readLetter(char letter, int start, int many) {
            boolean before = reached[0];
            reached[0] = false;
            for (int q = 1; q <= many; q++) {
                boolean old = reached[q];
                char sign = term.letters[start + q - 1];
                if (sign == '*') {
                    reached[q] = old || reached[q - 1];
                } else {
                    reached[q] = before && (sign == '?' || sign == letter);
                }
                before = old;
            }
        }
    }

    /** Brings RECORDS that stand by their numbers into the order of an INDEX. */
    private static final class Sorter {
        private final Words first = new Words(MOST_BYTES);
        private final Words second = new Words(MOST_BYTES);

        void sort(int[] records, int count, Holding[] shelf, int index, boolean descending) {
            for (int i = 1; i < count && i < records.length; i++) {
                for (int j = i; j > 0; j--) {
                    Holding holding = holdingOf(shelf, records[j]);
                    Holding before = holdingOf(shelf, records[j - 1]);
                    if (compare(holding, before, index, descending) >= 0) {
                        break;
                    }
                    int record = records[j];
                    records[j] = records[j - 1];
                    records[j - 1] = record;
                }
            }
        }

        private static Holding holdingOf(Holding[] shelf, int record) {
            return record >= 0 && record < shelf.length ? shelf[record] : null;
        }

        private int compare(Holding a, Holding b, int index, boolean descending) {
            int aKey = keyOf(a, index);
            int bKey = keyOf(b, index);
            if (aKey == NONE || bKey == NONE) {
                // Those without come last, whichever way the others are sorted.
                return aKey == bKey ? 0 : aKey == NONE ? 1 : -1;
            }
            int order = index == DATE ? Integer.compare(aKey, bKey)
                    : compareTexts(a, aKey, b, bKey, index);
            return descending ? -order : order;
        }

        /** The DATE, or which of its TEXTS counts. */
        private static int keyOf(Holding holding, int index) {
            if (holding == null) {
                return NONE;
            }
            return index == DATE ? holding.date() : holding.firstTextIn(index);
        }

        private int compareTexts(Holding a, int aText, Holding b, int bText, int index) {
            first.readText(a, aText, index);
            second.readText(b, bText, index);
            return first.compareAll(second);
        }
    }

    /** The different WORDS of an INDEX, sorted. */
    private static final class Lexicon {
        private static final int FEW_WORDS = 32;
        private static final int FEW_LETTERS = 256;
        /** A search that halves its range is over long before that. */
        private static final int MOST_HALVINGS = 32;

        private char[] letters = new char[FEW_LETTERS];
        private int letterCount;
        private int[] starts = new int[FEW_WORDS];
        private int[] ends = new int[FEW_WORDS];
        /** A bit for each RECORD that has the WORD. */
        private int[] holders = new int[FEW_WORDS];
        private int size;
        private boolean stale;

        void rebuild(Holding[] shelf, int index, Words scratch) {
            size = 0;
            letterCount = 0;
            for (int r = 0; r < shelf.length; r++) {
                for (int t = 0; shelf[r] != null && t < shelf[r].textCount; t++) {
                    if (shelf[r].isTextIn(t, index)) {
                        scratch.readText(shelf[r], t, index);
                        addWords(scratch, 1 << r);
                    }
                }
            }
            stale = false;
        }

        private void addWords(Words words, int holder) {
            for (int i = 0; i < words.size; i++) {
                int k = countBefore(words, i);
                if (compareWord(k, words, i) != 0) {
                    insert(k, words.letters, words.starts[i], words.ends[i] - words.starts[i]);
                }
                if (k >= 0 && k < size) {
                    holders[k] |= holder;
                }
            }
        }

        private void insert(int k, char[] text, int from, int length) {
            if (k < 0 || k > size || from < 0 || length < 0 || from + length > text.length) {
                return;
            }
            if (size >= starts.length) {
                starts = Arrays.copyOf(starts, 2 * size);
                ends = Arrays.copyOf(ends, 2 * size);
                holders = Arrays.copyOf(holders, 2 * size);
            }
            makeRoom(length);
            System.arraycopy(text, from, letters, letterCount, length);
            System.arraycopy(starts, k, starts, k + 1, size - k);
            System.arraycopy(ends, k, ends, k + 1, size - k);
            System.arraycopy(holders, k, holders, k + 1, size - k);
            starts[k] = letterCount;
            ends[k] = letterCount + length;
            holders[k] = 0;
            letterCount += length;
            size++;
        }

        private void makeRoom(int length) {
            if (letterCount + length > letters.length) {
                char[] longer = new char[2 * letters.length + length];
                System.arraycopy(letters, 0, longer, 0, letterCount);
                letters = longer;
            }
        }

        /** How many come before WORD i of a text. */
        int countBefore(Words words, int i) {
            int low = 0;
            int high = size;
            for (int turn = 0; turn < MOST_HALVINGS && low < high; turn++) {
                int middle = (low + high) / 2;
                if (compareWord(middle, words, i) < 0) {
                    low = middle + 1;
                } else {
                    high = middle;
                }
            }
            return low;
        }

        private int compareWord(int k, Words words, int i) {
            if (k < 0 || k >= size || i < 0 || i >= words.size) {
                return NO_ORDER;
            }
            return compareSpans(letters, starts[k], ends[k],
                    words.letters, words.starts[i], words.ends[i]);
        }

        char character(int k, int i) {
            if (k < 0 || k >= size || i < 0 || i >= ends[k] - starts[k]) {
                return ' ';
            }
            return letters[starts[k] + i];
        }

        int holderCount(int k) {
            return k >= 0 && k < size ? Integer.bitCount(holders[k]) : 0;
        }
    }
}
