import java.util.Arrays;

/**
 * The cries of a town's crier, day by day, who may add words and never leave one out.
 * What each call promises stands in ../shared/DOC.md; words in capitals are its terms.
 *
 * Every row and table that a call needs is made with the object and used again,
 * as all that a run makes is counted: no call makes an object or an array.
 */
public final class AddedCries {
    public static final int UNKNOWN = -1, OUTSIDE = -2, STATE = -3, FULL = -4, NONE = -9;
    public static final long LOST = Long.MIN_VALUE;

    private static final int WORDS = 8, MOST_DAYS = 6, MOST_WORDS = 12;
    private static final int KINDS = 3, PLAIN = 0, DENIAL = 1, DOUBT = 2;
    private static final int SHEETS = 4, MOST_CELLS = 80, SORTS = 3, BYTES = 0, SHORTS = 1;
    private static final int NO_FAULT = 0, NULL = 1, CAST = 2, INDEX = 3, SIZE = 4;
    private static final int FIRST_LETTER = 97, BETWEEN_DAYS = 59, TEXT_FAULT = -100;

    /** The places between the WORDS of a CRY, its two ends too. */
    private static final int SIDE = MOST_WORDS + 1;

    private final int[] kinds = new int[WORDS];
    private final Cry[] days = new Cry[MOST_DAYS];
    private final Sheet[] sheets = new Sheet[SHEETS];
    private final Cry wordless = new Cry();
    private final Fit fit = new Fit();
    private final Sayings sayings = new Sayings();
    private final Weave weave = new Weave();
    private final Braid braid = new Braid();
    private final Between between = new Between();
    private final int[] fewestParts = new int[SIDE];
    private int dayCount = 0;
    private int traced = 0;
    private int latestFault = NO_FAULT;

    public AddedCries() {
        for (int d = 0; d < MOST_DAYS; d++) {
            days[d] = new Cry();
        }
        for (int k = 0; k < SHEETS; k++) {
            sheets[k] = new Sheet();
        }
    }

    // ---- 1 cries

    public int cries(int sheet, int sort, int i, int n) {
        latestFault = NO_FAULT;
        Sheet text = sheetOf(sheet);
        if (text == null) {
            return UNKNOWN;
        }
        if (!isSort(sort)) {
            return OUTSIDE;
        }
        int wrong = readingFault(text, sort);
        if (wrong != NO_FAULT) {
            return fails(wrong);
        }
        if (n < 0) {
            return fails(SIZE);
        }
        if (!text.hasCells(i, n)) {
            return fails(INDEX);
        }
        int firstFault = firstFaultOf(text, i, n);
        if (firstFault != NONE) {
            return TEXT_FAULT - firstFault;
        }
        takeText(text, i, n);
        return dayCount;
    }

    public int kind(int w, int kind) {
        if (!isWord(w)) {
            return UNKNOWN;
        }
        if (!isKind(kind)) {
            return OUTSIDE;
        }
        int was = kinds[w];
        kinds[w] = kind;
        return was;
    }

    public int ofDay(int day, int k) {
        Cry cry = cryOf(day);
        if (cry == null) {
            return UNKNOWN;
        }
        if (k == -1) {
            return cry.size();
        }
        return cry.has(k) ? cry.at(k) : UNKNOWN;
    }

    public int add(int place, int w) {
        Cry last = lastCry();
        if (!isWord(w) || place < 0) {
            return UNKNOWN;
        }
        if (last == null) {
            return STATE;
        }
        if (place > last.size()) {
            return UNKNOWN;
        }
        if (last.isFull()) {
            return FULL;
        }
        last.insert(place, w);
        return last.size();
    }

    public int within(int day, int other) {
        Cry one = cryOf(day);
        Cry two = cryOf(other);
        if (one == null || two == null) {
            return UNKNOWN;
        }
        return fit.make(one, two) ? 1 : 0;
    }

    public int leftOut() {
        for (int d = 1; d < dayCount; d++) {
            Cry ahead = cryOf(d - 1);
            Cry cry = cryOf(d);
            if (ahead != null && cry != null && !fit.make(ahead, cry)) {
                return d;
            }
        }
        return NONE;
    }

    // ---- 2 what is said

    public int said(int day) {
        Cry cry = cryOf(day);
        if (cry == null) {
            return UNKNOWN;
        }
        int set = 0;
        for (int w = 0; w < WORDS; w++) {
            if (kinds[w] == PLAIN && Sayings.isSaid(cry, kinds, w)) {
                set |= 1 << w;
            }
        }
        return set;
    }

    public int putIn(int day, int w, boolean want, int q) {
        Cry cry = cryOf(day);
        if (cry == null || !isWord(w) || q < -1 || q > 1) {
            return UNKNOWN;
        }
        if (kinds[w] != PLAIN) {
            return STATE;
        }
        int many = sayings.fewest(cry, kinds, w, want);
        if (q == -1) {
            return many;
        }
        return q < many ? sayings.found(q) : NONE;
    }

    // ---- 3 one in another

    public long ways(int day, int other) {
        Cry one = cryOf(day);
        Cry two = cryOf(other);
        if (one == null || two == null) {
            return LOST;
        }
        return fit.choices(one, two);
    }

    public int place(int day, int other, int k, int what) {
        Cry one = cryOf(day);
        Cry two = cryOf(other);
        if (one == null || two == null || !one.has(k)) {
            return UNKNOWN;
        }
        if (!isFirstOrSecond(what)) {
            return OUTSIDE;
        }
        if (!fit.make(one, two)) {
            return NONE;
        }
        return what == 0 ? fit.first(k) : fit.last(k);
    }

    public int mayBe(int place) {
        Cry last = lastCry();
        if (last == null || !last.has(place)) {
            return UNKNOWN;
        }
        int set = 0;
        for (int d = 0; d < dayCount; d++) {
            Cry cry = cryOf(d);
            if (cry != null && fit.canStand(cry, last, place)) {
                set |= 1 << d;
            }
        }
        return set;
    }

    public int both(int day, int other, int what) {
        Cry one = cryOf(day);
        Cry two = cryOf(other);
        if (one == null || two == null) {
            return UNKNOWN;
        }
        if (!isFirstOrSecond(what)) {
            return OUTSIDE;
        }
        weave.make(one, two);
        // A WORD that both have in common is what the shortest saves.
        return what == 0 ? one.size() + two.size() - weave.length() : weave.length();
    }

    public long shortest(int day, int other, int q) {
        Cry one = cryOf(day);
        Cry two = cryOf(other);
        if (one == null || two == null || q < -1) {
            return LOST;
        }
        weave.make(one, two);
        if (q >= weave.length()) {
            return LOST;
        }
        return q == -1 ? weave.howMany() : weave.wordOfFirst(one, two, q);
    }

    public int three(int a, int b, int c) {
        Cry one = cryOf(a);
        Cry two = cryOf(b);
        Cry last = cryOf(c);
        if (one == null || two == null || last == null) {
            return UNKNOWN;
        }
        return braid.length(one, two, last);
    }

    // ---- 4 lost days, breaths

    public long lostDay(int day, int other, int n) {
        Cry inner = cryOf(day);
        Cry outer = cryOf(other);
        if (inner == null || outer == null || n < 0 || n > MOST_WORDS) {
            return LOST;
        }
        return between.count(inner, outer, n);
    }

    public long roots(int day, int n) {
        Cry outer = cryOf(day);
        if (outer == null || n < 0 || n > MOST_WORDS) {
            return LOST;
        }
        return between.count(wordless, outer, n);
    }

    public int breaths(int day, int b) {
        Cry cry = cryOf(day);
        if (cry == null) {
            return UNKNOWN;
        }
        if (b < 1 || b > MOST_WORDS) {
            return OUTSIDE;
        }
        return fewestBreaths(cry, b);
    }

    // ---- 5 parts

    public int once(int day, int other, int what) {
        Cry one = cryOf(day);
        Cry two = cryOf(other);
        if (one == null || two == null) {
            return UNKNOWN;
        }
        if (!isFirstOrSecond(what)) {
            return OUTSIDE;
        }
        int longest = 0;
        int first = NONE;
        for (int p = 0; p < one.size(); p++) {
            int length = longestPartAt(one, p, two);
            if (length > longest) {
                longest = length;
                first = p;
            }
        }
        return what == 0 ? longest : first;
    }

    public int twice(int day) {
        Cry cry = cryOf(day);
        if (cry == null) {
            return UNKNOWN;
        }
        int seen = 0;
        int again = 0;
        for (int k = 0; k < cry.size(); k++) {
            int bit = 1 << cry.at(k);
            if ((seen & bit) != 0) {
                again++;
            }
            seen |= bit;
        }
        return again;
    }

    // ---- 6 sheets, parts

    public int sheet(int k, int sort, int n) {
        latestFault = NO_FAULT;
        Sheet sheet = sheetOf(k);
        if (sheet == null) {
            return UNKNOWN;
        }
        if (!isSort(sort) || n > MOST_CELLS) {
            return OUTSIDE;
        }
        if (n < 0) {
            return fails(SIZE);
        }
        sheet.renew(sort, n);
        return 1;
    }

    public int lose(int k) {
        Sheet sheet = sheetOf(k);
        if (sheet == null) {
            return UNKNOWN;
        }
        if (sheet.isNothing()) {
            return 0;
        }
        sheet.drop();
        return 1;
    }

    public int put(int k, int i, int v) {
        latestFault = NO_FAULT;
        Sheet sheet = sheetOf(k);
        if (sheet == null) {
            return UNKNOWN;
        }
        if (sheet.isNothing()) {
            return fails(NULL);
        }
        if (!sheet.hasCells(i, 1)) {
            return fails(INDEX);
        }
        sheet.write(i, v);
        return 1;
    }

    public long cell(int k, int i, int sort) {
        latestFault = NO_FAULT;
        Sheet sheet = sheetOf(k);
        if (sheet == null || !isSort(sort)) {
            return LOST;
        }
        latestFault = readingFault(sheet, sort);
        if (latestFault != NO_FAULT) {
            return LOST;
        }
        if (!sheet.hasCells(i, 1)) {
            latestFault = INDEX;
            return LOST;
        }
        return sheet.at(i);
    }

    public int copy(int k, int i, int other, int j, int n) {
        latestFault = NO_FAULT;
        Sheet from = sheetOf(k);
        Sheet to = sheetOf(other);
        if (from == null || to == null) {
            return UNKNOWN;
        }
        if (from.isNothing() || to.isNothing()) {
            return fails(NULL);
        }
        if (from.sort() != to.sort()) {
            return fails(CAST);
        }
        if (!from.hasCells(i, n) || !to.hasCells(j, n)) {
            return fails(INDEX);
        }
        from.giveTo(i, to, j, n);
        return n;
    }

    public int tell(int w) {
        if (!isWord(w)) {
            return UNKNOWN;
        }
        if (kinds[w] == DOUBT) {
            return doubtTells(w);
        }
        return kinds[w] == DENIAL ? denialTells(w) : wordTells(w);
    }

    public int sing(int w) {
        if (!isWord(w)) {
            return UNKNOWN;
        }
        return kinds[w] == DOUBT ? doubtSings() : wordSings(w);
    }

    public int as(int w, int kind) {
        latestFault = NO_FAULT;
        if (!isWord(w)) {
            return UNKNOWN;
        }
        if (!isKind(kind)) {
            return OUTSIDE;
        }
        // Each kind is all the kinds ahead of it, too.
        return kinds[w] < kind ? fails(CAST) : 1;
    }

    public int trace() {
        return traced;
    }

    public int fault() {
        return latestFault;
    }

    public int many() {
        return dayCount;
    }

    // ---- what there is

    private static boolean isWord(int w) {
        return w >= 0 && w < WORDS;
    }

    private static boolean isKind(int kind) {
        return kind >= 0 && kind < KINDS;
    }

    private static boolean isSort(int sort) {
        return sort >= 0 && sort < SORTS;
    }

    private static boolean isFirstOrSecond(int what) {
        return what == 0 || what == 1;
    }

    /** Null where there is no such DAY, so that a caller tests once. */
    private Cry cryOf(int day) {
        return day >= 0 && day < dayCount && day < MOST_DAYS ? days[day] : null;
    }

    private Cry lastCry() {
        return cryOf(dayCount - 1);
    }

    /** Null where there is no such SHEET, so that a caller tests once. */
    private Sheet sheetOf(int k) {
        return k >= 0 && k < SHEETS ? sheets[k] : null;
    }

    private int fails(int wrong) {
        latestFault = wrong;
        return -10 - wrong;
    }

    /** Nothing is of every SORT, so it comes to NULL and never to CAST. */
    private static int readingFault(Sheet sheet, int sort) {
        if (sheet.isNothing()) {
            return NULL;
        }
        return sheet.sort() == sort ? NO_FAULT : CAST;
    }

    // ---- a TEXT

    private static boolean isLetter(int code) {
        return code >= FIRST_LETTER && code < FIRST_LETTER + WORDS;
    }

    /** The FIRST FAULT of the cells as a TEXT, or NONE. */
    private static int firstFaultOf(Sheet text, int i, int n) {
        int begun = 1;
        int letters = 0;
        for (int p = 0; p < n; p++) {
            int code = text.at(i + p);
            if (isLetter(code) && letters < MOST_WORDS) {
                letters++;
            } else if (code == BETWEEN_DAYS && letters > 0 && begun < MOST_DAYS) {
                begun++;
                letters = 0;
            } else {
                return p;
            }
        }
        return letters == 0 ? n : NONE;
    }

    private void takeText(Sheet text, int i, int n) {
        dayCount = 0;
        beginDay();
        for (int p = 0; p < n; p++) {
            int code = text.at(i + p);
            Cry last = lastCry();
            if (code == BETWEEN_DAYS) {
                beginDay();
            } else if (last != null && isLetter(code)) {
                last.insert(last.size(), code - FIRST_LETTER);
            }
        }
    }

    private void beginDay() {
        if (dayCount >= MOST_DAYS) {
            return;
        }
        dayCount++;
        Cry last = lastCry();
        if (last != null) {
            last.clear();
        }
    }

    // ---- parts of a CRY

    private int fewestBreaths(Cry cry, int b) {
        fewestParts[0] = 0;
        int whole = Math.min(cry.size(), MOST_WORDS);
        for (int end = 1; end <= whole; end++) {
            fewestParts[end] = NONE;
            if (end < whole && isDenial(cry.at(end - 1))) {
                continue;
            }
            for (int begin = Math.max(0, end - b); begin < end; begin++) {
                int parts = fewestParts[begin] + 1;
                if (fewestParts[begin] != NONE && (fewestParts[end] == NONE || parts < fewestParts[end])) {
                    fewestParts[end] = parts;
                }
            }
        }
        return fewestParts[whole];
    }

    /** A DOUBT is a DENIAL, too. */
    private boolean isDenial(int w) {
        return isWord(w) && kinds[w] >= DENIAL;
    }

    /** How many WORDS on end from a place on stand somewhere in the other CRY on end. */
    private static int longestPartAt(Cry one, int place, Cry two) {
        int longest = 0;
        for (int p = 0; p < two.size(); p++) {
            longest = Math.max(longest, likeOnEnd(one, place, two, p));
        }
        return longest;
    }

    private static int likeOnEnd(Cry one, int i, Cry two, int j) {
        for (int length = 0; length < MOST_WORDS; length++) {
            // Beyond their ends both tell NONE: that is no WORD in common.
            if (!one.has(i + length) || one.at(i + length) != two.at(j + length)) {
                return length;
            }
        }
        return MOST_WORDS;
    }

    // ---- the bodies that leave their number in TRACE

    private void leave(int number) {
        traced = 31 * traced + number;
    }

    private int wordTells(int w) {
        leave(1);
        int in = 0;
        for (int d = 0; d < dayCount; d++) {
            Cry cry = cryOf(d);
            if (cry != null && cry.hasWord(w)) {
                in++;
            }
        }
        return in;
    }

    private int denialTells(int w) {
        leave(2);
        return wordTells(w) + 100;
    }

    private int doubtTells(int w) {
        leave(3);
        int denials = denialTells(w);
        return denials + wordTells(w);
    }

    private int wordSings(int w) {
        leave(4);
        return w;
    }

    private int doubtSings() {
        leave(5);
        return 40;
    }

    /** A row of up to 12 WORDS. */
    private static final class Cry {
        private final int[] words = new int[MOST_WORDS];
        private int size = 0;

        int size() {
            return size;
        }

        boolean isFull() {
            return size >= MOST_WORDS;
        }

        boolean has(int k) {
            return k >= 0 && k < size;
        }

        /** NONE beyond the CRY: that is like no WORD. */
        int at(int k) {
            return has(k) ? words[k] : NONE;
        }

        boolean hasWord(int w) {
            for (int k = 0; k < size; k++) {
                if (words[k] == w) {
                    return true;
                }
            }
            return false;
        }

        void clear() {
            size = 0;
        }

        void insert(int place, int w) {
            if (isFull() || place < 0 || place > size) {
                return;
            }
            for (int k = size; k > place; k--) {
                words[k] = words[k - 1];
            }
            words[place] = w;
            size++;
        }
    }

    /** Has nothing, or a row of numbers of a SORT; the cells are kept for the next row. */
    private static final class Sheet {
        private static final int NOTHING = -1;

        private final int[] cells = new int[MOST_CELLS];
        private int size = NOTHING;
        private int sort = BYTES;

        boolean isNothing() {
            return size == NOTHING;
        }

        int sort() {
            return sort;
        }

        void renew(int newSort, int n) {
            if (n < 0 || n > MOST_CELLS) {
                return;
            }
            Arrays.fill(cells, 0);
            size = n;
            sort = newSort;
        }

        void drop() {
            size = NOTHING;
        }

        /** Where none is taken, too, i must be a place in the row or its end; the sum is long, as it may be too big for an int. */
        boolean hasCells(int i, int n) {
            return i >= 0 && n >= 0 && (long) i + n <= size;
        }

        int at(int i) {
            return hasCells(i, 1) ? cells[i] : 0;
        }

        void write(int i, int v) {
            if (hasCells(i, 1)) {
                cells[i] = cut(v);
            }
        }

        void giveTo(int i, Sheet other, int j, int n) {
            if (hasCells(i, n) && other.hasCells(j, n)) {
                System.arraycopy(cells, i, other.cells, j, n);
            }
        }

        private int cut(int v) {
            if (sort == BYTES) {
                return (byte) v;
            }
            return sort == SHORTS ? (short) v : v;
        }
    }

    /** A table over the places of two CRIES; beyond it all is 0. */
    private static final class Grid {
        private final long[] cells = new long[SIDE * SIDE];

        private static boolean isInside(int i, int j) {
            return i >= 0 && i < SIDE && j >= 0 && j < SIDE;
        }

        long at(int i, int j) {
            return isInside(i, j) ? cells[i * SIDE + j] : 0;
        }

        void write(int i, int j, long v) {
            if (isInside(i, j)) {
                cells[i * SIDE + j] = v;
            }
        }

        void more(int i, int j, long v) {
            write(i, j, at(i, j) + v);
        }

        void clear() {
            Arrays.fill(cells, 0);
        }
    }

    /** How one CRY is WITHIN another one. */
    private static final class Fit {
        private final int[] firsts = new int[MOST_WORDS];
        private final int[] lasts = new int[MOST_WORDS];
        private final long[] choices = new long[SIDE];

        /** Whether it is WITHIN; if so, first() and last() tell of it till the next call. */
        boolean make(Cry inner, Cry outer) {
            int k = 0;
            for (int p = 0; p < outer.size(); p++) {
                if (inner.has(k) && inner.at(k) == outer.at(p)) {
                    firsts[k] = p;
                    k++;
                }
            }
            if (k < inner.size()) {
                return false;
            }
            k = inner.size() - 1;
            for (int p = outer.size() - 1; p >= 0; p--) {
                if (inner.has(k) && inner.at(k) == outer.at(p)) {
                    lasts[k] = p;
                    k--;
                }
            }
            return true;
        }

        int first(int k) {
            return k >= 0 && k < MOST_WORDS ? firsts[k] : NONE;
        }

        int last(int k) {
            return k >= 0 && k < MOST_WORDS ? lasts[k] : NONE;
        }

        /** From its first place to its last one a WORD can stand wherever it is found: the others have room at both sides. */
        boolean canStand(Cry inner, Cry outer, int place) {
            if (!make(inner, outer)) {
                return false;
            }
            for (int k = 0; k < inner.size(); k++) {
                if (inner.at(k) == outer.at(place) && first(k) <= place && place <= last(k)) {
                    return true;
                }
            }
            return false;
        }

        long choices(Cry inner, Cry outer) {
            int whole = Math.min(inner.size(), MOST_WORDS);
            Arrays.fill(choices, 0);
            choices[0] = 1;
            for (int p = 0; p < outer.size(); p++) {
                // From the end on, so that a place is not chosen for two WORDS.
                for (int k = whole; k > 0; k--) {
                    if (inner.at(k - 1) == outer.at(p)) {
                        choices[k] += choices[k - 1];
                    }
                }
            }
            return choices[whole];
        }
    }

    /**
     * What is SAID, followed for one WORD alone: then three bits are all that counts,
     * and how a CRY ends can be kept for each place and each of the eight states.
     */
    private static final class Sayings {
        private static final int SAID = 1, DENYING = 2, LATEST = 4, STATES = 8;

        private final boolean[] ends = new boolean[SIDE * STATES];
        private final int[] found = new int[2];

        static boolean isSaid(Cry cry, int[] kinds, int w) {
            int state = 0;
            for (int k = 0; k < cry.size(); k++) {
                state = after(state, cry.at(k), kinds, w);
            }
            return (state & SAID) != 0;
        }

        /** How many WORDS must be put in, or NONE; found() has them. */
        int fewest(Cry cry, int[] kinds, int w, boolean want) {
            keepEnds(cry, kinds, w);
            if (endsSaid(0, 0) == want) {
                return 0;
            }
            if (findOne(cry, kinds, w, want, 0, 0, 0)) {
                return 1;
            }
            return findTwo(cry, kinds, w, want) ? 2 : NONE;
        }

        int found(int q) {
            return q >= 0 && q < 2 ? found[q] : NONE;
        }

        private static int after(int state, int word, int[] kinds, int w) {
            if (word < 0 || word >= kinds.length) {
                return state;
            }
            if (kinds[word] == PLAIN) {
                boolean denied = (state & DENYING) != 0;
                if (word == w) {
                    return denied ? LATEST : LATEST | SAID;
                }
                return state & SAID;
            }
            boolean doubted = kinds[word] == DOUBT && (state & LATEST) != 0;
            return (doubted ? state & ~SAID : state) ^ DENYING;
        }

        private void keepEnds(Cry cry, int[] kinds, int w) {
            int whole = Math.min(cry.size(), MOST_WORDS);
            for (int state = 0; state < STATES; state++) {
                ends[whole * STATES + state] = (state & SAID) != 0;
            }
            for (int p = whole - 1; p >= 0; p--) {
                for (int state = 0; state < STATES; state++) {
                    ends[p * STATES + state] = endsSaid(p + 1, after(state, cry.at(p), kinds, w));
                }
            }
        }

        private boolean endsSaid(int place, int state) {
            return place >= 0 && place < SIDE && state >= 0 && state < STATES && ends[place * STATES + state];
        }

        /** The first WORD to be put in from a place on, come to in a state; it is kept as the q-th. */
        private boolean findOne(Cry cry, int[] kinds, int w, boolean want, int from, int come, int q) {
            int state = come;
            for (int p = from; p <= cry.size(); p++) {
                for (int v = 0; v < WORDS; v++) {
                    if (endsSaid(p, after(state, v, kinds, w)) == want) {
                        keep(q, p, v);
                        return true;
                    }
                }
                state = after(state, cry.at(p), kinds, w);
            }
            return false;
        }

        private boolean findTwo(Cry cry, int[] kinds, int w, boolean want) {
            int state = 0;
            for (int p = 0; p <= cry.size(); p++) {
                for (int v = 0; v < WORDS; v++) {
                    if (findOne(cry, kinds, w, want, p, after(state, v, kinds, w), 1)) {
                        keep(0, p, v);
                        return true;
                    }
                }
                state = after(state, cry.at(p), kinds, w);
            }
            return false;
        }

        private void keep(int q, int place, int w) {
            if (q >= 0 && q < 2) {
                found[q] = 10 * place + w;
            }
        }
    }

    /** The shortest CRIES in which two are WITHIN, from each pair of places to the ends. */
    private static final class Weave {
        private final Grid lengths = new Grid();
        private final Grid counts = new Grid();

        void make(Cry one, Cry two) {
            for (int i = one.size(); i >= 0; i--) {
                for (int j = two.size(); j >= 0; j--) {
                    makeAt(one, i, two, j);
                }
            }
        }

        int length() {
            return (int) lengths.at(0, 0);
        }

        long howMany() {
            return counts.at(0, 0);
        }

        int wordOfFirst(Cry one, Cry two, int q) {
            int i = 0;
            int j = 0;
            int word = NONE;
            for (int k = 0; k <= q && k < 2 * MOST_WORDS; k++) {
                word = firstWord(one, i, two, j);
                i += one.at(i) == word ? 1 : 0;
                j += two.at(j) == word ? 1 : 0;
            }
            return word;
        }

        private void makeAt(Cry one, int i, Cry two, int j) {
            if (!one.has(i) || !two.has(j)) {
                keep(i, j, one.size() - i + two.size() - j, 1);
            } else if (one.at(i) == two.at(j)) {
                keep(i, j, 1 + lengths.at(i + 1, j + 1), counts.at(i + 1, j + 1));
            } else {
                // They begin with unlike WORDS, so none is counted twice.
                long byOne = lengths.at(i + 1, j);
                long byTwo = lengths.at(i, j + 1);
                long count = (byOne <= byTwo ? counts.at(i + 1, j) : 0)
                        + (byTwo <= byOne ? counts.at(i, j + 1) : 0);
                keep(i, j, 1 + Math.min(byOne, byTwo), count);
            }
        }

        private void keep(int i, int j, long length, long count) {
            lengths.write(i, j, length);
            counts.write(i, j, count);
        }

        private int firstWord(Cry one, int i, Cry two, int j) {
            if (!one.has(i)) {
                return two.at(j);
            }
            if (!two.has(j) || one.at(i) == two.at(j)) {
                return one.at(i);
            }
            long byOne = lengths.at(i + 1, j);
            long byTwo = lengths.at(i, j + 1);
            if (byOne == byTwo) {
                return Math.min(one.at(i), two.at(j));
            }
            return byOne < byTwo ? one.at(i) : two.at(j);
        }
    }

    /** The shortest CRY in which three are WITHIN; of the first one's places only this and the next are kept. */
    private static final class Braid {
        private Grid here = new Grid();
        private Grid next = new Grid();

        int length(Cry one, Cry two, Cry last) {
            for (int i = one.size(); i >= 0; i--) {
                Grid old = next;
                next = here;
                here = old;
                for (int j = two.size(); j >= 0; j--) {
                    for (int k = last.size(); k >= 0; k--) {
                        here.write(j, k, lengthAt(one.at(i), two.at(j), j, last.at(k), k));
                    }
                }
            }
            return (int) here.at(0, 0);
        }

        /** From places on at which the three wait for these WORDS (NONE at an end). */
        private long lengthAt(int one, int two, int j, int last, int k) {
            long shortest = shorter(by(one, one, two, j, last, k), by(two, one, two, j, last, k));
            shortest = shorter(shortest, by(last, one, two, j, last, k));
            return shortest == NONE ? 0 : shortest;
        }

        /** How long it gets if a WORD stands next: all that wait for it go on. */
        private long by(int word, int one, int two, int j, int last, int k) {
            if (word == NONE) {
                return NONE;
            }
            int nextJ = two == word ? j + 1 : j;
            int nextK = last == word ? k + 1 : k;
            return 1 + (one == word ? next.at(nextJ, nextK) : here.at(nextJ, nextK));
        }

        private static long shorter(long a, long b) {
            if (a == NONE || b == NONE) {
                return Math.max(a, b);
            }
            return Math.min(a, b);
        }
    }

    /**
     * The CRIES between two. Each is told by the first places at which it can stand in the outer one,
     * so that unlike ways of one CRY are not counted as unlike CRIES.
     */
    private static final class Between {
        private Grid now = new Grid();
        private Grid then = new Grid();

        long count(Cry inner, Cry outer, int n) {
            now.clear();
            now.write(0, 0, 1);
            for (int k = 0; k < n; k++) {
                goOn(inner, outer);
            }
            long sum = 0;
            for (int p = 0; p <= outer.size(); p++) {
                sum += now.at(inner.size(), p);
            }
            return sum;
        }

        /** One WORD more to all CRIES, sorted by how much of the inner one they have and where they end in the outer one. */
        private void goOn(Cry inner, Cry outer) {
            then.clear();
            for (int had = 0; had <= inner.size(); had++) {
                for (int place = 0; place < outer.size(); place++) {
                    long count = now.at(had, place);
                    if (count != 0) {
                        goOnFrom(inner, had, outer, place, count);
                    }
                }
            }
            Grid old = now;
            now = then;
            then = old;
        }

        private void goOnFrom(Cry inner, int had, Cry outer, int place, long count) {
            int seen = 0;
            for (int p = place; p < outer.size(); p++) {
                int word = outer.at(p);
                int bit = 1 << word;
                if ((seen & bit) == 0) {
                    seen |= bit;
                    then.more(inner.at(had) == word ? had + 1 : had, p + 1, count);
                }
            }
        }
    }
}
