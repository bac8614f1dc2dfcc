/** Each promise of the document with answers worked out by hand: ordinary inputs, edges, wrong inputs. */
public final class PromisesTest {
    private static final int MIN = Integer.MIN_VALUE, MAX = Integer.MAX_VALUE;
    private static final int UNKNOWN = -1, OUTSIDE = -2, STATE = -3, FULL = -4, NONE = -9;
    private static final int NULL = -11, CAST = -12, INDEX = -13, SIZE = -14;
    private static final long LOST = Long.MIN_VALUE;
    private static final Check C = new Check();

    public static void main(String[] args) {
        newObject();
        criesAreTaken();
        criesFirstFaults();
        criesRefused();
        kinds();
        ofDays();
        added();
        within();
        leftOut();
        said();
        putInNoneAndOne();
        putInTwo();
        ways();
        places();
        mayBe();
        both();
        shortest();
        three();
        lostDays();
        roots();
        breaths();
        once();
        twice();
        sheets();
        lost();
        puts();
        cells();
        copies();
        copiesRefused();
        told();
        sung();
        taken();
        traced();
        faults();
        many();
        C.end();
    }

    private static void newObject() {
        AddedCries x = new AddedCries();
        C.due("1 many", x.many(), 0);
        C.due("1 fault", x.fault(), 0);
        C.due("1 trace", x.trace(), 0);
        for (int k = 0; k < 4; k++) {
            C.due("1 lose " + k, x.lose(k), 0);
            C.due("1 put " + k, x.put(k, 0, 1), NULL);
        }
        for (int w = 0; w < 8; w++) {
            C.due("1 kind " + w, x.kind(w, 0), 0);
        }
    }

    private static void criesAreTaken() {
        AddedCries x = new AddedCries();
        C.due("2 one", Check.cries(x, "a"), 1);
        C.dueCry(x, 0, "a");
        C.due("2 all letters", Check.cries(x, "abcdefgh"), 1);
        C.dueCry(x, 0, "abcdefgh");
        C.due("2 six", Check.cries(x, "a;b;c;d;e;hg"), 6);
        C.dueCry(x, 5, "hg");
        C.due("2 fewer anew", Check.cries(x, "c;ab"), 2);
        C.dueCry(x, 0, "c");
        C.dueCry(x, 1, "ab");
        C.due("2 gone", x.ofDay(2, -1), UNKNOWN);
        C.due("2 twelve twice", Check.cries(x, "abcdefghabcd;hgfedcbahgfe"), 2);
        C.dueCry(x, 1, "hgfedcbahgfe");
        // 80 cells can hold all of the longest TEXT (6 times 12 and 5 between).
        C.due("2 longest", Check.cries(x, "abcdefghabcd;abcdefghabcd;abcdefghabcd;abcdefghabcd;abcdefghabcd;abcdefghabcd"), 6);
        Check.write(x, 0, "zz;ab;cde");
        C.due("2 from i", x.cries(0, 2, 3, 4), 2);
        C.dueCry(x, 0, "ab");
        C.dueCry(x, 1, "c");
        x.kind(1, 2);
        Check.cries(x, "b");
        C.due("2 kinds stay", x.kind(1, 0), 2);
        bytesAndShorts(x);
    }

    private static void bytesAndShorts(AddedCries x) {
        x.sheet(0, 0, 1);
        x.put(0, 0, 256 + 'c');
        C.due("2 bytes", x.cries(0, 0, 0, 1), 1);
        C.dueCry(x, 0, "c");
        x.sheet(1, 1, 1);
        x.put(1, 0, 65536 + 'd');
        C.due("2 shorts", x.cries(1, 1, 0, 1), 1);
        C.dueCry(x, 0, "d");
        x.sheet(2, 2, 1);
        x.put(2, 0, 65536 + 'd');
        C.due("2 ints are whole", x.cries(2, 2, 0, 1), -100);
        x.put(2, 0, -'d');
        C.due("2 with its sign", x.cries(2, 2, 0, 1), -100);
    }

    private static void criesFirstFaults() {
        AddedCries x = Check.of("gh;h");
        String[] texts = {"", ";", ";a", "a;", "a;;b", "ai", "a`", "A", "a b", "abcdefghabcde", "a;abcdefghabcde",
            "abcdefghabcd;", "a;b;c;d;e;f;", "a;b;c;d;e;f;g", "a;b;c;d;e;fg;", "ab;c<", "ab;:"};
        int[] faults = {0, 0, 0, 2, 2, 1, 1, 0, 1, 12, 14, 13, 11, 11, 12, 4, 3};
        for (int t = 0; t < texts.length; t++) {
            C.due("2 first fault of " + texts[t], Check.cries(x, texts[t]), -100 - faults[t]);
            C.due("2 no fault of the machine", x.fault(), 0);
            C.due("2 the DAYS stay", x.many(), 2);
        }
        C.dueCry(x, 0, "gh");
        C.dueCry(x, 1, "h");
        Check.write(x, 0, "ab;;");
        C.due("2 told from i on", x.cries(0, 2, 1, 3), -102);
        C.due("2 none from the end on", x.cries(0, 2, 4, 0), -100);
    }

    private static void criesRefused() {
        AddedCries x = Check.of("ab");
        C.due("2 sheet -1", x.cries(-1, 9, 0, 1), UNKNOWN);
        C.due("2 sheet 4", x.cries(4, 0, 0, 1), UNKNOWN);
        C.due("2 sort -1", x.cries(3, -1, 0, 1), OUTSIDE);
        C.due("2 sort 3", x.cries(0, 3, 0, -1), OUTSIDE);
        C.due("2 cast", x.cries(3, 1, -1, -1), CAST);
        C.due("2 cast told", x.fault(), 2);
        C.due("2 nothing is no cast", x.cries(0, 1, -1, -1), NULL);
        C.due("2 null told", x.fault(), 1);
        C.due("2 size", x.cries(3, 2, -1, -1), SIZE);
        C.due("2 size told", x.fault(), 4);
        C.due("2 index below", x.cries(3, 2, -1, 1), INDEX);
        C.due("2 index told", x.fault(), 3);
        C.due("2 index beyond", x.cries(3, 2, 1, 2), INDEX);
        C.due("2 index beyond, none taken", x.cries(3, 2, 3, 0), INDEX);
        C.due("2 index below, none taken", x.cries(3, 2, -1, 0), INDEX);
        C.due("2 index wraps", x.cries(3, 2, 1, MAX), INDEX);
        C.due("2 index far", x.cries(3, 2, MAX, MAX), INDEX);
        C.due("2 size far", x.cries(3, 2, 0, MIN), SIZE);
        C.dueCry(x, 0, "ab");
        C.due("2 part", x.cries(3, 2, 1, 1), 1);
        C.due("2 part told", x.fault(), 0);
        C.dueCry(x, 0, "b");
    }

    private static void kinds() {
        AddedCries x = new AddedCries();
        C.due("3 becomes", x.kind(7, 2), 0);
        C.due("3 was", x.kind(7, 1), 2);
        C.due("3 was again", x.kind(7, 0), 1);
        C.due("3 others stay", x.kind(6, 0), 0);
        C.due("3 word -1", x.kind(-1, 9), UNKNOWN);
        C.due("3 word 8", x.kind(8, 0), UNKNOWN);
        C.due("3 kind -1", x.kind(7, -1), OUTSIDE);
        C.due("3 kind 3", x.kind(7, 3), OUTSIDE);
        C.due("3 nothing changed", x.kind(7, 0), 0);
        x.put(0, 0, 0);
        x.kind(8, 0);
        C.due("3 names no fault", x.fault(), 1);
    }

    private static void ofDays() {
        AddedCries x = Check.of("abh;c");
        C.due("4 size", x.ofDay(0, -1), 3);
        C.due("4 size of 1", x.ofDay(1, -1), 1);
        C.due("4 first", x.ofDay(0, 0), 0);
        C.due("4 last", x.ofDay(0, 2), 7);
        C.due("4 beyond", x.ofDay(0, 3), UNKNOWN);
        C.due("4 beyond 1", x.ofDay(1, 1), UNKNOWN);
        C.due("4 below", x.ofDay(0, -2), UNKNOWN);
        C.due("4 far", x.ofDay(0, MAX) + x.ofDay(0, MIN), 2 * UNKNOWN);
        C.due("4 no DAY", x.ofDay(2, -1), UNKNOWN);
        C.due("4 no DAY below", x.ofDay(-1, -1), UNKNOWN);
        C.due("4 without DAYS", new AddedCries().ofDay(0, -1), UNKNOWN);
    }

    private static void added() {
        AddedCries x = new AddedCries();
        C.due("5 no DAYS", x.add(0, 0), STATE);
        C.due("5 no DAYS, far", x.add(MAX, 0), STATE);
        C.due("5 no DAYS, below", x.add(-1, 0), UNKNOWN);
        C.due("5 no DAYS, no WORD", x.add(0, 8), UNKNOWN);
        Check.cries(x, "ab;cd");
        C.due("5 ahead", x.add(0, 4), 3);
        C.dueCry(x, 1, "ecd");
        C.due("5 at the end", x.add(3, 5), 4);
        C.dueCry(x, 1, "ecdf");
        C.due("5 between", x.add(2, 7), 5);
        C.dueCry(x, 1, "echdf");
        C.dueCry(x, 0, "ab");
        C.due("5 place below", x.add(-1, 0), UNKNOWN);
        C.due("5 place beyond", x.add(6, 0), UNKNOWN);
        C.due("5 WORD below", x.add(0, -1), UNKNOWN);
        C.due("5 WORD beyond", x.add(0, 8), UNKNOWN);
        C.dueCry(x, 1, "echdf");
        for (int size = 6; size <= 12; size++) {
            C.due("5 grows", x.add(5, 0), size);
        }
        C.due("5 full", x.add(0, 0), FULL);
        C.due("5 full at the end", x.add(12, 0), FULL);
        C.due("5 full beyond", x.add(13, 0), UNKNOWN);
        C.due("5 full, no WORD", x.add(0, 8), UNKNOWN);
        C.dueCry(x, 1, "echdfaaaaaaa");
    }

    private static void within() {
        AddedCries x = Check.of("abc;adbec;acb;aabc;c;abca");
        int[][] due = {{1, 1, 0, 1, 0, 1}, {0, 1, 0, 0, 0, 0}, {0, 0, 1, 0, 0, 0},
            {0, 0, 0, 1, 0, 0}, {1, 1, 1, 1, 1, 1}, {0, 0, 0, 0, 0, 1}};
        for (int d = 0; d < 6; d++) {
            for (int o = 0; o < 6; o++) {
                C.due("6 within " + d + " " + o, x.within(d, o), due[d][o]);
            }
        }
        C.due("6 day", x.within(6, 0), UNKNOWN);
        C.due("6 other", x.within(0, 6), UNKNOWN);
        C.due("6 below", x.within(-1, 0), UNKNOWN);
        C.due("6 other below", x.within(0, -1), UNKNOWN);
        C.due("6 twice needs two", Check.of("aa;a").within(0, 1), 0);
    }

    private static void leftOut() {
        C.due("7 without DAYS", new AddedCries().leftOut(), NONE);
        C.due("7 one DAY", Check.of("abc").leftOut(), NONE);
        C.due("7 none", Check.of("a;ab;cab;cabb").leftOut(), NONE);
        C.due("7 the first of two", Check.of("a;ab;ba;b").leftOut(), 2);
        C.due("7 the first DAY that can", Check.of("ab;a;ab").leftOut(), 1);
        C.due("7 the last", Check.of("a;a;a;a;a;b").leftOut(), 5);
        // Only the DAY just ahead counts, not one that is farther.
        C.due("7 back again", Check.of("a;ab;b;ab").leftOut(), 2);
        AddedCries x = Check.of("ab;b");
        x.add(0, 0);
        C.due("7 mended by add", x.leftOut(), NONE);
    }

    private static AddedCries ofKinds(String text) {
        AddedCries x = Check.of(text);
        x.kind(3, 1);
        x.kind(4, 2);
        return x;
    }

    private static int saidOf(String text) {
        return ofKinds(text).said(0);
    }

    private static void said() {
        C.due("8 plain", saidOf("abh"), 1 + 2 + 128);
        C.due("8 denied", saidOf("adb"), 1);
        C.due("8 denied no more", saidOf("adbc"), 1 + 4);
        C.due("8 said, then denied", saidOf("ada"), 0);
        C.due("8 denied, then said", saidOf("daa"), 1);
        C.due("8 denied twice", saidOf("dda"), 1);
        C.due("8 denied three times", saidOf("ddda"), 0);
        C.due("8 a DENIAL is not said", saidOf("d"), 0);
        C.due("8 doubt takes back", saidOf("abe"), 1);
        C.due("8 doubt denies", saidOf("abec"), 1);
        C.due("8 doubt after denial", saidOf("abdec"), 1 + 4);
        C.due("8 doubt twice", saidOf("abeec"), 1 + 4);
        C.due("8 doubt with nothing ahead", saidOf("eab"), 2);
        C.due("8 the latest is a denied one", saidOf("abdae"), 2);
        C.due("8 the latest was denied, others stay", saidOf("abdce"), 1 + 2);
        C.due("8 taken back though said before", saidOf("abae"), 2);
        AddedCries x = ofKinds("adb;b");
        x.kind(3, 0);
        C.due("8 by the kinds of now", x.said(0), 1 + 2 + 8);
        C.due("8 of the other DAY", x.said(1), 2);
        C.due("8 no DAY", x.said(2), UNKNOWN);
        C.due("8 below", x.said(-1), UNKNOWN);
    }

    private static void duePutIn(String text, int w, boolean want, int many, int first, int second) {
        AddedCries x = ofKinds(text);
        String call = "9 put in " + text + " " + w + " " + want + " ";
        C.due(call + "-1", x.putIn(0, w, want, -1), many);
        C.due(call + "0", x.putIn(0, w, want, 0), first);
        C.due(call + "1", x.putIn(0, w, want, 1), second);
        C.dueCry(x, 0, text);
    }

    private static void putInNoneAndOne() {
        duePutIn("a", 0, true, 0, NONE, NONE);
        duePutIn("b", 0, false, 0, NONE, NONE);
        duePutIn("a", 0, false, 1, 3, NONE);
        duePutIn("ab", 1, false, 1, 13, NONE);
        duePutIn("b", 0, true, 1, 0, NONE);
        // One more DENIAL turns it back; that is ahead of another WORD put between, which is at a later place.
        duePutIn("da", 0, true, 1, 3, NONE);
        // Put ahead of b it would leave b denied and a, too: so at place 1.
        duePutIn("bda", 0, true, 1, 13, NONE);
        // bea: the DOUBT denies a; a at place 1 is taken back, at place 2 it is denied for the one behind it.
        duePutIn("bea", 0, true, 1, 13, NONE);
        duePutIn("bea", 1, true, 1, 10, NONE);
        // A full CRY takes what is put in, too.
        duePutIn("bbbbbbbbbbbb", 0, true, 1, 0, NONE);
        duePutIn("bbbbbbbbbbba", 0, false, 1, 113, NONE);
        AddedCries x = ofKinds("a;b");
        C.due("9 no DAY", x.putIn(2, 0, true, 0), UNKNOWN);
        C.due("9 WORD -1", x.putIn(0, -1, true, 0), UNKNOWN);
        C.due("9 WORD 8", x.putIn(0, 8, true, 0), UNKNOWN);
        C.due("9 q -2", x.putIn(0, 0, true, -2), UNKNOWN);
        C.due("9 q 2 of a DENIAL", x.putIn(0, 3, true, 2), UNKNOWN);
        C.due("9 a DENIAL", x.putIn(0, 3, true, -1), STATE);
        C.due("9 a DOUBT", x.putIn(0, 4, false, 1), STATE);
        C.due("9 the other DAY", x.putIn(1, 1, true, -1), 0);
    }

    private static void putInTwo() {
        AddedCries x = Check.of("a");
        C.due("9 without DENIALS", x.putIn(0, 0, false, -1), NONE);
        C.due("9 without DENIALS first", x.putIn(0, 0, false, 0), NONE);
        C.due("9 without DENIALS second", x.putIn(0, 0, false, 1), NONE);
        x = Check.of("ab");
        x.kind(1, 2);
        C.due("9 doubted", x.putIn(0, 0, true, -1), 1);
        C.due("9 another WORD takes the doubt", x.putIn(0, 0, true, 0), 12);
        // b alone is of kind 0, so each DOUBT takes b back: b must stand last, with an even number of them ahead.
        x = Check.of("bc");
        for (int w = 0; w < 8; w++) {
            x.kind(w, w == 1 ? 0 : 2);
        }
        C.due("9 two", x.putIn(0, 1, true, -1), 2);
        C.due("9 two first", x.putIn(0, 1, true, 0), 10);
        C.due("9 two second", x.putIn(0, 1, true, 1), 21);
        // b ahead of the DOUBT c is taken back, behind it is denied; so another WORD stands behind b, at its place.
        x = Check.of("c");
        x.kind(2, 2);
        C.due("9 two at one place", x.putIn(0, 1, true, -1), 2);
        C.due("9 two at one place first", x.putIn(0, 1, true, 0), 1);
        C.due("9 two at one place second", x.putIn(0, 1, true, 1), 0);
    }

    private static void ways() {
        AddedCries x = Check.of("ab;aabb;abab;a;aaaaaaaaaaaa;aaaaaa");
        C.due("10 itself", x.ways(0, 0), 1);
        C.due("10 two by two", x.ways(0, 1), 4);
        C.due("10 in order", x.ways(0, 2), 3);
        C.due("10 not within", x.ways(0, 3), 0);
        C.due("10 longer", x.ways(4, 5), 0);
        C.due("10 most", x.ways(5, 4), 924);
        C.due("10 one", x.ways(3, 4), 12);
        C.due("10 day", x.ways(6, 0), LOST);
        C.due("10 other", x.ways(0, 6), LOST);
        C.due("10 below", x.ways(-1, 0), LOST);
    }

    private static void places() {
        AddedCries x = Check.of("ab;babcab;ba");
        C.due("11 first a", x.place(0, 1, 0, 0), 1);
        C.due("11 last a", x.place(0, 1, 0, 1), 4);
        C.due("11 first b", x.place(0, 1, 1, 0), 2);
        C.due("11 last b", x.place(0, 1, 1, 1), 5);
        C.due("11 last b of ba", x.place(2, 1, 0, 1), 2);
        C.due("11 last a of ab in itself", x.place(0, 0, 0, 1), 0);
        C.due("11 not within", x.place(1, 0, 0, 0), NONE);
        C.due("11 not within, the fifth", x.place(1, 0, 5, 1), NONE);
        C.due("11 k beyond", x.place(0, 1, 2, 0), UNKNOWN);
        C.due("11 k below", x.place(0, 1, -1, 9), UNKNOWN);
        C.due("11 day", x.place(3, 0, 0, 9), UNKNOWN);
        C.due("11 other", x.place(0, 3, 0, 0), UNKNOWN);
        C.due("11 what 2", x.place(0, 1, 0, 2), OUTSIDE);
        C.due("11 what -1, not within", x.place(1, 0, 0, -1), OUTSIDE);
    }

    private static void mayBe() {
        AddedCries x = Check.of("ab;ba;abb;ddd;bab");
        // In bab: ab stands at 1, 2; ba at 0, 1; abb and ddd nowhere.
        C.due("12 place 0", x.mayBe(0), 2 + 16);
        C.due("12 place 1", x.mayBe(1), 1 + 2 + 16);
        C.due("12 place 2", x.mayBe(2), 1 + 16);
        C.due("12 beyond", x.mayBe(3), UNKNOWN);
        C.due("12 below", x.mayBe(-1), UNKNOWN);
        C.due("12 without DAYS", new AddedCries().mayBe(0), UNKNOWN);
        x.add(3, 1);
        C.due("12 after add", x.mayBe(3), 1 + 4 + 16);
        AddedCries y = Check.of("ac;bc;acabc");
        C.due("12 a can be at two", y.mayBe(2), 1 + 4);
        C.due("12 c can be ahead", y.mayBe(1), 1 + 4);
        C.due("12 b is new for ac", y.mayBe(3), 2 + 4);
    }

    private static void both() {
        AddedCries x = Check.of("abcbdab;bdcaba;hh;aaaaaaaaaaaa;bbbbbbbbbbbb");
        C.due("13 common", x.both(0, 1, 0), 4);
        C.due("13 shortest", x.both(0, 1, 1), 9);
        C.due("13 nothing in common", x.both(0, 2, 0), 0);
        C.due("13 one after the other", x.both(0, 2, 1), 9);
        C.due("13 itself", x.both(1, 1, 0), 6);
        C.due("13 itself, shortest", x.both(1, 1, 1), 6);
        C.due("13 longest", x.both(3, 4, 1), 24);
        C.due("13 common of unlike lengths", x.both(1, 3, 0), 2);
        C.due("13 day", x.both(5, 0, 9), UNKNOWN);
        C.due("13 other", x.both(0, 5, 0), UNKNOWN);
        C.due("13 what 2", x.both(0, 0, 2), OUTSIDE);
        C.due("13 what -1", x.both(0, 0, -1), OUTSIDE);
    }

    private static void dueShortest(AddedCries x, int day, int other, long many, String first) {
        String call = "14 shortest " + day + " " + other + " ";
        C.due(call + -1, x.shortest(day, other, -1), many);
        for (int q = 0; q < first.length(); q++) {
            C.due(call + q, x.shortest(day, other, q), first.charAt(q) - 'a');
        }
        C.due(call + first.length(), x.shortest(day, other, first.length()), LOST);
    }

    private static void shortest() {
        AddedCries x = Check.of("ab;ba;cd;abc;aaaaaaaaaaaa;bbbbbbbbbbbb");
        dueShortest(x, 0, 1, 2, "aba");
        dueShortest(x, 1, 0, 2, "aba");
        dueShortest(x, 0, 2, 6, "abcd");
        dueShortest(x, 2, 0, 6, "abcd");
        dueShortest(x, 0, 3, 1, "abc");
        dueShortest(x, 3, 3, 1, "abc");
        dueShortest(x, 5, 4, 2704156, "aaaaaaaaaaaabbbbbbbbbbbb");
        C.due("14 q below", x.shortest(0, 1, -2), LOST);
        C.due("14 q far", x.shortest(0, 1, MAX), LOST);
        C.due("14 day", x.shortest(6, 0, -1), LOST);
        C.due("14 other", x.shortest(0, 6, -1), LOST);
        // Unlike choices of places can make the same CRY (aaba with either a in common); it is counted once.
        dueShortest(Check.of("aab;aba"), 0, 1, 2, "aaba");
        AddedCries y = Check.of("ab;bcab;hgfehgfehgfe;abcdabcdabcd");
        dueShortest(y, 0, 1, 1, "bcab");
        dueShortest(y, 1, 0, 1, "bcab");
        dueShortest(y, 2, 3, 2704156, "abcdabcdabcdhgfehgfehgfe");
    }

    private static void three() {
        AddedCries x = Check.of("ab;ba;c;aaaaaaaaaaaa;bbbbbbbbbbbb;cccccccccccc");
        C.due("15 the same", x.three(0, 0, 0), 2);
        C.due("15 two alike", x.three(0, 1, 0), 3);
        C.due("15 one after another", x.three(0, 1, 2), 4);
        C.due("15 longest", x.three(3, 4, 5), 36);
        C.due("15 in any order", x.three(5, 2, 0), 14);
        // Two by two each pair needs 3, all of them 4: the pair's shortest is not enough.
        C.due("15 more than by pairs", Check.of("ab;bc;ca").three(0, 1, 2), 4);
        C.due("15 a", x.three(6, 0, 0), UNKNOWN);
        C.due("15 b", x.three(0, 6, 0), UNKNOWN);
        C.due("15 c", x.three(0, 0, -1), UNKNOWN);
    }

    private static void lostDays() {
        AddedCries x = Check.of("a;aba;ababab;b;aaaaaaaaaaaa");
        C.due("16 none shorter", x.lostDay(0, 1, 0), 0);
        C.due("16 itself", x.lostDay(0, 1, 1), 1);
        // aa, ab, ba: each has an a.
        C.due("16 two", x.lostDay(0, 1, 2), 3);
        C.due("16 the other itself", x.lostDay(0, 1, 3), 1);
        C.due("16 longer", x.lostDay(0, 1, 4), 0);
        // aaba, abaa, abab, abba, baba.
        C.due("16 four", x.lostDay(1, 2, 4), 5);
        C.due("16 not within", x.lostDay(3, 4, 12), 0);
        C.due("16 alike counted once", x.lostDay(0, 4, 6), 1);
        C.due("16 n 12", x.lostDay(0, 4, 12), 1);
        C.due("16 n 13", x.lostDay(0, 4, 13), LOST);
        C.due("16 n -1", x.lostDay(0, 4, -1), LOST);
        C.due("16 day", x.lostDay(5, 0, 1), LOST);
        C.due("16 other", x.lostDay(0, 5, 1), LOST);
    }

    private static void roots() {
        AddedCries x = Check.of("aba;aaaaaaaaaaaa;abcdefgh");
        C.due("17 none", x.roots(0, 0), 1);
        C.due("17 one", x.roots(0, 1), 2);
        C.due("17 two", x.roots(0, 2), 3);
        C.due("17 itself", x.roots(0, 3), 1);
        C.due("17 longer", x.roots(0, 4), 0);
        C.due("17 alike", x.roots(1, 6), 1);
        C.due("17 unlike", x.roots(2, 4), 70);
        C.due("17 n 12", x.roots(1, 12), 1);
        C.due("17 n 13", x.roots(0, 13), LOST);
        C.due("17 n -1", x.roots(0, -1), LOST);
        C.due("17 day", x.roots(3, 1), LOST);
    }

    private static void breaths() {
        AddedCries x = ofKinds("abdeac;abd;addda;aaaaaaaaaaaa;d;daaaaaaaaaae");
        C.due("18 whole", x.breaths(0, 6), 1);
        // a b | d e a | c: no part can end behind d or e.
        C.due("18 three", x.breaths(0, 3), 3);
        C.due("18 two DENIALS need three", x.breaths(0, 2), NONE);
        C.due("18 the last may end so", x.breaths(1, 2), 2);
        C.due("18 the last alone", x.breaths(1, 1), 3);
        C.due("18 four on end", x.breaths(2, 4), 2);
        C.due("18 not three", x.breaths(2, 3), NONE);
        C.due("18 one each", x.breaths(3, 1), 12);
        C.due("18 uneven", x.breaths(3, 5), 3);
        C.due("18 twelve", x.breaths(3, 12), 1);
        C.due("18 a DENIAL alone", x.breaths(4, 1), 1);
        C.due("18 two by two", x.breaths(5, 2), 6);
        C.due("18 b 0", x.breaths(0, 0), OUTSIDE);
        C.due("18 b 13", x.breaths(0, 13), OUTSIDE);
        C.due("18 no DAY", x.breaths(6, 0), UNKNOWN);
    }

    private static void once() {
        AddedCries x = Check.of("abcab;cabd;hh;bab;aab");
        C.due("19 longest", x.once(0, 1, 0), 3);
        C.due("19 its place", x.once(0, 1, 1), 2);
        C.due("19 the other way", x.once(1, 0, 1), 0);
        C.due("19 none", x.once(0, 2, 0), 0);
        C.due("19 no place", x.once(0, 2, 1), NONE);
        // ab stands twice in the first one.
        C.due("19 of two", x.once(0, 4, 0), 2);
        C.due("19 the first of two", x.once(0, 4, 1), 0);
        C.due("19 itself", x.once(0, 0, 0), 5);
        C.due("19 on end in both", x.once(3, 1, 0), 2);
        C.due("19 on end in both, place", x.once(3, 1, 1), 1);
        C.due("19 twelve", Check.of("abcdefghabcd;abcdefghabcd").once(0, 1, 0), 12);
        C.due("19 day", x.once(5, 0, 9), UNKNOWN);
        C.due("19 other", x.once(0, 5, 0), UNKNOWN);
        C.due("19 what 2", x.once(0, 0, 2), OUTSIDE);
        C.due("19 what -1", x.once(0, 0, -1), OUTSIDE);
    }

    private static void twice() {
        AddedCries x = Check.of("abaca;abc;aaaaaaaaaaaa;aabb");
        C.due("20 as told", x.twice(0), 2);
        C.due("20 none", x.twice(1), 0);
        C.due("20 most", x.twice(2), 11);
        C.due("20 two", x.twice(3), 2);
        C.due("20 no DAY", x.twice(4), UNKNOWN);
        C.due("20 below", x.twice(-1), UNKNOWN);
    }

    private static void sheets() {
        AddedCries x = new AddedCries();
        C.due("21 none", x.sheet(0, 0, 0), 1);
        C.due("21 has a row of none", x.cell(0, 0, 0), LOST);
        C.due("21 that is INDEX", x.fault(), 3);
        C.due("21 most", x.sheet(3, 2, 80), 1);
        C.due("21 its last cell", x.put(3, 79, 5), 1);
        C.due("21 beyond", x.put(3, 80, 5), INDEX);
        C.due("21 new", x.sheet(3, 2, 80), 1);
        C.due("21 0 at first", x.cell(3, 79, 2), 0);
        x.put(3, 4, 7);
        C.due("21 refused changes nothing", x.sheet(3, 2, 81), OUTSIDE);
        C.due("21 SIZE", x.sheet(3, 2, -1), SIZE);
        C.due("21 SIZE told", x.fault(), 4);
        C.due("21 SIZE far", x.sheet(3, 2, MIN), SIZE);
        C.due("21 sort 3", x.sheet(3, 3, -1), OUTSIDE);
        C.due("21 refused tells none", x.fault(), 0);
        C.due("21 sort -1", x.sheet(3, -1, 1), OUTSIDE);
        C.due("21 far", x.sheet(3, 0, MAX), OUTSIDE);
        C.due("21 sheet 4", x.sheet(4, 9, -1), UNKNOWN);
        C.due("21 sheet -1", x.sheet(-1, 0, 1), UNKNOWN);
        C.due("21 stays", x.cell(3, 4, 2), 7);
        C.due("21 shorter", x.sheet(3, 0, 1), 1);
        C.due("21 shorter now", x.put(3, 1, 0), INDEX);
        C.due("21 another SORT", x.cell(3, 0, 0), 0);
    }

    private static void lost() {
        AddedCries x = new AddedCries();
        x.sheet(1, 0, 3);
        x.sheet(2, 0, 0);
        C.due("22 had a row", x.lose(1), 1);
        C.due("22 has nothing", x.lose(1), 0);
        C.due("22 a row of none is a row", x.lose(2), 1);
        C.due("22 nothing to put in", x.put(1, 0, 0), NULL);
        C.due("22 sheet 4", x.lose(4), UNKNOWN);
        C.due("22 sheet -1", x.lose(-1), UNKNOWN);
        C.due("22 names no fault", x.fault(), 1);
    }

    private static void puts() {
        AddedCries x = new AddedCries();
        int[] values = {0, 127, 128, 255, 256, -128, -129, 32767, 32768, 65535, 65536, -32769, MAX, MIN, -1};
        for (int sort = 0; sort < 3; sort++) {
            x.sheet(sort, sort, 15);
            for (int i = 0; i < 15; i++) {
                C.due("23 put", x.put(sort, i, values[i]), 1);
            }
            for (int i = 0; i < 15; i++) {
                int cut = sort == 0 ? (byte) values[i] : sort == 1 ? (short) values[i] : values[i];
                C.due("23 cut to " + sort, x.cell(sort, i, sort), cut);
            }
        }
        C.due("23 nothing", x.put(3, -1, 0), NULL);
        C.due("23 nothing told", x.fault(), 1);
        C.due("23 below", x.put(0, -1, 9), INDEX);
        C.due("23 beyond", x.put(0, 15, 9), INDEX);
        C.due("23 far", x.put(0, MAX, 9), INDEX);
        C.due("23 far below", x.put(0, MIN, 9), INDEX);
        C.due("23 beyond told", x.fault(), 3);
        C.due("23 sheet 4", x.put(4, 0, 0), UNKNOWN);
        C.due("23 sheet 4 told", x.fault(), 0);
        C.due("23 sheet -1", x.put(-1, 0, 0), UNKNOWN);
    }

    private static void dueLost(String call, long got, int faultGot, int fault) {
        C.due("24 " + call, got, LOST);
        C.due("24 " + call + " told", faultGot, fault);
    }

    private static void cells() {
        AddedCries x = new AddedCries();
        x.sheet(0, 1, 2);
        x.put(0, 1, -7);
        C.due("24 second", x.cell(0, 1, 1), -7);
        C.due("24 first", x.cell(0, 0, 1), 0);
        C.due("24 told none", x.fault(), 0);
        dueLost("cast", x.cell(0, 9, 0), x.fault(), 2);
        dueLost("cast to ints", x.cell(0, 0, 2), x.fault(), 2);
        dueLost("null", x.cell(1, 9, 2), x.fault(), 1);
        dueLost("below", x.cell(0, -1, 1), x.fault(), 3);
        dueLost("beyond", x.cell(0, 2, 1), x.fault(), 3);
        dueLost("far", x.cell(0, MAX, 1), x.fault(), 3);
        dueLost("sort 3", x.cell(0, 9, 3), x.fault(), 0);
        x.put(1, 0, 0);
        dueLost("sort -1", x.cell(1, 0, -1), x.fault(), 0);
        x.put(1, 0, 0);
        dueLost("sheet 4", x.cell(4, 0, 0), x.fault(), 0);
        dueLost("sheet -1", x.cell(-1, 0, 0), x.fault(), 0);
    }

    private static void dueCells(String call, AddedCries x, int k, int... want) {
        for (int i = 0; i < want.length; i++) {
            C.due("25 " + call + " cell " + i, x.cell(k, i, 1), want[i]);
        }
    }

    private static AddedCries ofFiveCells() {
        AddedCries x = new AddedCries();
        x.sheet(0, 1, 5);
        for (int i = 0; i < 5; i++) {
            x.put(0, i, i + 1);
        }
        x.sheet(1, 1, 3);
        x.sheet(2, 0, 5);
        return x;
    }

    private static void copies() {
        AddedCries x = ofFiveCells();
        C.due("25 to another", x.copy(0, 1, 1, 0, 3), 3);
        dueCells("to another", x, 1, 2, 3, 4);
        dueCells("the first stays", x, 0, 1, 2, 3, 4, 5);
        C.due("25 onward", x.copy(0, 0, 0, 1, 4), 4);
        dueCells("onward, as they were", x, 0, 1, 1, 2, 3, 4);
        C.due("25 back", x.copy(0, 2, 0, 0, 3), 3);
        dueCells("back, as they were", x, 0, 2, 3, 4, 3, 4);
        C.due("25 none", x.copy(0, 5, 1, 3, 0), 0);
        C.due("25 told none", x.fault(), 0);
        C.due("25 all to itself", x.copy(0, 0, 0, 0, 5), 5);
        dueCells("all to itself", x, 0, 2, 3, 4, 3, 4);
    }

    private static void copiesRefused() {
        AddedCries x = ofFiveCells();
        C.due("25 sheet 4", x.copy(4, 0, 3, 0, 1), UNKNOWN);
        C.due("25 other 4", x.copy(3, 0, 4, 0, 1), UNKNOWN);
        C.due("25 sheet -1", x.copy(-1, 0, 0, 0, 1), UNKNOWN);
        C.due("25 the first is nothing", x.copy(3, -1, 0, 0, 1), NULL);
        C.due("25 the other is nothing", x.copy(0, 0, 3, -1, 1), NULL);
        C.due("25 both are nothing", x.copy(3, 0, 3, 0, 0), NULL);
        C.due("25 null told", x.fault(), 1);
        C.due("25 unlike sorts", x.copy(0, -1, 2, 0, -1), CAST);
        C.due("25 cast told", x.fault(), 2);
        C.due("25 n below", x.copy(0, 0, 1, 0, -1), INDEX);
        C.due("25 index told", x.fault(), 3);
        C.due("25 i below", x.copy(0, -1, 1, 0, 1), INDEX);
        C.due("25 j below", x.copy(0, 0, 1, -1, 1), INDEX);
        C.due("25 i beyond", x.copy(0, 3, 1, 0, 3), INDEX);
        C.due("25 j beyond", x.copy(0, 0, 1, 1, 3), INDEX);
        C.due("25 i beyond, none taken", x.copy(0, 6, 1, 0, 0), INDEX);
        C.due("25 j beyond, none taken", x.copy(0, 0, 1, 4, 0), INDEX);
        C.due("25 i below, none taken", x.copy(0, -1, 1, 0, 0), INDEX);
        C.due("25 far", x.copy(0, MAX, 0, MAX, MAX), INDEX);
        C.due("25 n wraps", x.copy(0, 1, 0, 1, MAX), INDEX);
        C.due("25 n far below", x.copy(0, 0, 0, 0, MIN), INDEX);
        dueCells("refused", x, 0, 1, 2, 3, 4, 5);
        dueCells("refused", x, 1, 0, 0, 0);
    }

    private static void told() {
        AddedCries x = Check.of("abab;b;c");
        C.due("26 in one", x.tell(0), 1);
        C.due("26 in two", x.tell(1), 2);
        C.due("26 in none", x.tell(7), 0);
        C.due("26 trace of words", x.trace(), (31 + 1) * 31 + 1);
        C.due("26 word 8", x.tell(8), UNKNOWN);
        C.due("26 word -1", x.tell(-1), UNKNOWN);
        C.due("26 refused leaves none", x.trace(), (31 + 1) * 31 + 1);
        AddedCries y = Check.of("abab;b;c");
        y.kind(1, 1);
        C.due("26 a DENIAL", y.tell(1), 102);
        C.due("26 trace of a DENIAL", y.trace(), 2 * 31 + 1);
        AddedCries z = Check.of("abab;b;c");
        z.kind(1, 2);
        C.due("26 a DOUBT", z.tell(1), 104);
        C.due("26 trace of a DOUBT", z.trace(), ((3 * 31 + 2) * 31 + 1) * 31 + 1);
    }

    private static void sung() {
        AddedCries x = new AddedCries();
        for (int w = 0; w < 8; w++) {
            C.due("27 a WORD " + w, x.sing(w), w);
        }
        x.kind(5, 1);
        C.due("27 a DENIAL", x.sing(5), 5);
        x.kind(5, 2);
        C.due("27 a DOUBT", x.sing(5), 40);
        AddedCries y = new AddedCries();
        y.kind(1, 1);
        y.kind(2, 2);
        y.sing(0);
        y.sing(1);
        y.sing(2);
        C.due("27 trace", y.trace(), (4 * 31 + 4) * 31 + 5);
        C.due("27 word 8", y.sing(8), UNKNOWN);
        C.due("27 word -1", y.sing(-1), UNKNOWN);
        C.due("27 refused leaves none", y.trace(), (4 * 31 + 4) * 31 + 5);
    }

    private static void taken() {
        AddedCries x = new AddedCries();
        for (int is = 0; is < 3; is++) {
            x.kind(6, is);
            for (int as = 0; as < 3; as++) {
                boolean can = as <= is;
                C.due("28 " + is + " as " + as, x.as(6, as), can ? 1 : CAST);
                C.due("28 " + is + " as " + as + " told", x.fault(), can ? 0 : 2);
            }
        }
        x.kind(6, 0);
        x.as(6, 2);
        C.due("28 word 8", x.as(8, 9), UNKNOWN);
        C.due("28 refused tells none", x.fault(), 0);
        x.as(6, 2);
        C.due("28 kind 3", x.as(6, 3), OUTSIDE);
        C.due("28 kind 3 tells none", x.fault(), 0);
        C.due("28 kind -1", x.as(6, -1), OUTSIDE);
        C.due("28 word -1", x.as(-1, 0), UNKNOWN);
    }

    private static void traced() {
        AddedCries x = new AddedCries();
        int want = 0;
        for (int i = 0; i < 40; i++) {
            want = 31 * want + 4;
            x.sing(1);
            C.due("29 wraps", x.trace(), want);
        }
        C.due("29 stays", x.trace(), want);
        Check.cries(x, "ab");
        x.as(0, 2);
        C.due("29 others leave none", x.trace(), want);
    }

    private static void faults() {
        AddedCries x = Check.of("ab");
        C.due("30 came to none", x.fault(), 0);
        x.put(0, 0, 0);
        C.due("30 NULL", x.fault(), 1);
        C.due("30 asked again", x.fault(), 1);
        x.cries(4, 0, 0, 0);
        C.due("30 cries refused", x.fault(), 0);
        x.put(0, 0, 0);
        x.copy(0, 0, 4, 0, 0);
        C.due("30 copy refused", x.fault(), 0);
        x.put(0, 0, 0);
        x.sheet(0, 9, 0);
        C.due("30 sheet refused", x.fault(), 0);
        x.put(1, 0, 0);
        x.sheet(0, 0, 5);
        C.due("30 sheet done", x.fault(), 0);
        x.put(1, 0, 0);
        x.put(0, 0, 0);
        C.due("30 put done", x.fault(), 0);
        x.put(1, 0, 0);
        x.cell(0, 0, 0);
        C.due("30 cell done", x.fault(), 0);
        x.put(1, 0, 0);
        x.copy(0, 0, 0, 1, 1);
        C.due("30 copy done", x.fault(), 0);
        x.put(1, 0, 0);
        x.as(0, 0);
        C.due("30 as done", x.fault(), 0);
        x.put(1, 0, 0);
        x.cries(3, 2, 0, 2);
        C.due("30 cries done", x.fault(), 0);
        x.put(1, 0, 0);
        othersNameNone(x);
        C.due("30 others name none", x.fault(), 1);
    }

    private static void othersNameNone(AddedCries x) {
        x.kind(0, 0);
        x.ofDay(0, 0);
        x.add(0, 0);
        x.within(0, 0);
        x.leftOut();
        x.said(0);
        x.putIn(0, 0, true, 0);
        x.ways(0, 0);
        x.place(0, 0, 0, 0);
        x.mayBe(0);
        x.both(0, 0, 0);
        x.shortest(0, 0, 0);
        x.three(0, 0, 0);
        x.lostDay(0, 0, 0);
        x.roots(0, 0);
        x.breaths(0, 1);
        x.once(0, 0, 0);
        x.twice(0);
        x.lose(0);
        x.tell(0);
        x.sing(0);
        x.trace();
        x.many();
    }

    private static void many() {
        AddedCries x = new AddedCries();
        C.due("31 none", x.many(), 0);
        String text = "a";
        for (int days = 1; days <= 6; days++) {
            Check.cries(x, text);
            C.due("31 " + days, x.many(), days);
            text = text + ";a";
        }
        Check.cries(x, text);
        C.due("31 a refused TEXT", x.many(), 6);
        Check.cries(x, "h");
        C.due("31 fewer", x.many(), 1);
        x.add(0, 0);
        C.due("31 add makes no DAY", x.many(), 1);
    }
}
