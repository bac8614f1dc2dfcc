/**
 * Each sentence of the document that names a bound: the number just inside it and the number just outside it,
 * what has nothing and what is full, an int that wraps. The sentences stand at their tests.
 * What is refused beyond a bound, in which order, and that it changes nothing: see RefusalsTest.
 */
public final class BoundsTest {
    private static final int MIN = Integer.MIN_VALUE, MAX = Integer.MAX_VALUE;
    private static final int UNKNOWN = -1, OUTSIDE = -2, STATE = -3, FULL = -4, NONE = -9;
    private static final int NULL = -11, CAST = -12, INDEX = -13, SIZE = -14;
    private static final long LOST = Long.MIN_VALUE;
    private static final String TWELVE = "abcdefghabcd";
    private static final Check C = new Check();

    public static void main(String[] args) {
        newObject();
        lastCall();
        kindsStay();
        daysOfAText();
        wordsOfACry();
        codesOfWords();
        codeBetweenDays();
        firstFaultFromZeroOn();
        firstFaultEndsTooSoon();
        daysAreMadeAnew();
        cellsOfAText();
        longestText();
        wordsAndKinds();
        daysAndWordsOfADay();
        addedPlaces();
        addedTillFull();
        addedToTheLast();
        withinEdges();
        leftOutEdges();
        saidNothingAtFirst();
        saidAll();
        saidDenied();
        saidDoubted();
        putInNone();
        putInOne();
        putInTwo();
        putInByTwoAtOnePlace();
        putInNotByTwo();
        putInWordsAndDays();
        waysEdges();
        placesEdges();
        mayBeEdges();
        commonEdges();
        shortestEdges();
        threeEdges();
        lostDayEdges();
        rootsEdges();
        breathsEdges();
        breathsWithDenials();
        onceEdges();
        twiceEdges();
        sheetNumbers();
        rowsOfCells();
        rowsAreNew();
        rowsLost();
        cutToBytes();
        cutToShorts();
        cutToInts();
        copiedToTheEnds();
        copiedOntoItself();
        tellingEdges();
        tellingOfKinds();
        singingEdges();
        takenAs();
        traceWraps();
        faultOfTheLatest();
        faultIsKept();
        manyDays();
        C.end();
    }

    /** "No DAYS, SHEETS have nothing." "Kinds are all 0 at first." TRACE: "0 at first". fault(): "0 ahead of any". */
    private static void newObject() {
        AddedCries x = new AddedCries();
        C.due("1 fault()", x.fault(), 0);
        C.same("1 what there is", Town.seen(x), "trace 0 many 0 kinds 0 0 0 0 0 0 0 0"
            + " sheet nothing sheet nothing sheet nothing sheet nothing");
    }

    /** "An object is used for at most 512 calls after it has been made." */
    private static void lastCall() {
        AddedCries x = new AddedCries();
        int want = 0;
        for (int call = 1; call < 512; call++) {
            want = 31 * want + 4;
            x.sing(0);
        }
        C.due("call 512", x.trace(), want);
    }

    // ---- 1 cries

    /** "A TEXT leaves their kinds." */
    private static void kindsStay() {
        AddedCries x = new AddedCries();
        x.kind(0, 1);
        x.kind(7, 2);
        C.due("2 taken", Check.cries(x, "ah"), 1);
        C.due("2 kind of a stays", x.kind(0, 1), 1);
        C.due("2 kind of h stays", x.kind(7, 2), 2);
        C.due("2 not taken", Check.cries(x, "ah;"), -103);
        C.due("2 kind of h stays again", x.kind(7, 2), 2);
    }

    private static void dueText(String text, int want) {
        AddedCries x = Check.of("gh;h");
        C.due("2 TEXT " + text, Check.cries(x, text), want);
        C.due("2 fault() after TEXT " + text, x.fault(), 0);
        String[] days = want > 0 ? text.split(";") : new String[] {"gh", "h"};
        C.due("2 DAYS after TEXT " + text, x.many(), days.length);
        for (int d = 0; d < days.length; d++) {
            C.dueCry(x, d, days[d]);
        }
    }

    /** "1 to 6 DAYS, with ; between"; "(the ; of a seventh DAY)". */
    private static void daysOfAText() {
        dueText("a", 1);
        dueText("a;b", 2);
        dueText("a;b;c;d;e", 5);
        dueText("a;b;c;d;e;f", 6);
        dueText("a;b;c;d;e;f;g", -111);
        dueText("a;b;c;d;e;f;", -111);
        dueText("aa;bb;cc;dd;ee;ff;gg", -117);
    }

    /** "A CRY of 1 to 12 WORDS"; "(the thirteenth letter of a CRY)". */
    private static void wordsOfACry() {
        dueText("h", 1);
        dueText(TWELVE, 1);
        dueText(TWELVE + "e", -112);
        dueText(TWELVE + "e;a", -112);
        dueText("a;" + TWELVE, 2);
        dueText("a;" + TWELVE + "a", -114);
        dueText(TWELVE + ";" + TWELVE + ";h", 3);
        dueText("a;b;c;d;e;" + TWELVE, 6);
        dueText("a;b;c;d;e;" + TWELVE + "f", -122);
        dueText(";", -100);
        dueText(";a", -100);
        dueText("a;;b", -102);
        dueText("a;b;c;d;e;;", -110);
    }

    private static int ofCode(int code) {
        AddedCries x = new AddedCries();
        x.sheet(0, 2, 3);
        x.put(0, 0, 'a');
        x.put(0, 1, code);
        x.put(0, 2, 'b');
        return x.cries(0, 2, 0, 3);
    }

    /** "Codes: a .. h 97 .. 104", and no other number, by whatever bits it is like one. */
    private static void codesOfWords() {
        C.due("2 code 96", ofCode(96), -101);
        C.due("2 code 97", ofCode(97), 1);
        C.due("2 code 104", ofCode(104), 1);
        C.due("2 code 105", ofCode(105), -101);
        int[] others = {0, -1, 1, 65, 72, 97 + 256, 97 - 256, 97 + 65536, 97 - 65536, -97, 97 + MIN, 97 << 8, MAX, MIN};
        for (int code : others) {
            C.due("2 code " + code, ofCode(code), -101);
        }
        AddedCries x = new AddedCries();
        Town.fill(x, 0, 0, 97, 98, 99, 100, 101, 102, 103, 104);
        C.due("2 all codes", x.cries(0, 0, 0, 8), 1);
        C.dueCry(x, 0, "abcdefgh");
    }

    /** "Codes: ; 59". */
    private static void codeBetweenDays() {
        C.due("2 code 58", ofCode(58), -101);
        C.due("2 code 59", ofCode(59), 2);
        C.due("2 code 60", ofCode(60), -101);
        C.due("2 code 59 and 256", ofCode(59 + 256), -101);
        C.due("2 code 59 less 65536", ofCode(59 - 65536), -101);
    }

    /** "FIRST FAULT: the place (from 0 on) of the first code with which no TEXT goes on." */
    private static void firstFaultFromZeroOn() {
        dueText("?", -100);
        dueText("?a;", -100);
        dueText("a?;?", -101);
        dueText("ab;;?", -103);
        dueText(TWELVE + "?", -112);
        AddedCries x = new AddedCries();
        Check.write(x, 0, "ab;c?d");
        C.due("2 from cell 0 on", x.cries(0, 2, 0, 6), -104);
        C.due("2 from cell 1 on", x.cries(0, 2, 1, 5), -103);
        C.due("2 from cell 2 on", x.cries(0, 2, 2, 4), -100);
        C.due("2 from cell 3 on", x.cries(0, 2, 3, 3), -101);
        C.due("2 from cell 5 on", x.cries(0, 2, 5, 1), 1);
        C.dueCry(x, 0, "d");
    }

    /** "How many codes there are, if it just ends too soon." */
    private static void firstFaultEndsTooSoon() {
        dueText("", -100);
        dueText("a;", -102);
        dueText(TWELVE + ";", -113);
        dueText("a;b;c;d;e;", -110);
        AddedCries x = new AddedCries();
        Check.write(x, 0, "ab;c");
        C.due("2 none of some cells", x.cries(0, 2, 0, 0), -100);
        C.due("2 none from the end on", x.cries(0, 2, 4, 0), -100);
        C.due("2 cells are left out behind it", x.cries(0, 2, 1, 2), -102);
    }

    /** "A TEXT that is taken makes all DAYS anew." */
    private static void daysAreMadeAnew() {
        AddedCries x = Check.of(TWELVE + ";b;c;d;e;fgh");
        x.add(1, 0);
        C.due("2 one DAY", Check.cries(x, "h"), 1);
        C.due("2 its WORDS", x.ofDay(0, -1), 1);
        C.due("2 no second WORD", x.ofDay(0, 1), UNKNOWN);
        C.due("2 no second DAY", x.ofDay(1, -1), UNKNOWN);
        C.due("2 two DAYS", Check.cries(x, "a;b"), 2);
        C.dueCry(x, 0, "a");
        C.dueCry(x, 1, "b");
        C.due("2 no third DAY", x.ofDay(2, -1), UNKNOWN);
    }

    /** "INDEX: not all cells are there"; "of cells from i on also where i is not 0 .. how many there are, if none of them is taken, too". */
    private static void cellsOfAText() {
        AddedCries x = new AddedCries();
        Check.write(x, 0, "abc");
        C.due("2 all cells", x.cries(0, 2, 0, 3), 1);
        C.due("2 one more", x.cries(0, 2, 0, 4), INDEX);
        C.due("2 the last cell", x.cries(0, 2, 2, 1), 1);
        C.due("2 behind the last cell", x.cries(0, 2, 3, 1), INDEX);
        C.due("2 none at the end", x.cries(0, 2, 3, 0), -100);
        C.due("2 none behind the end", x.cries(0, 2, 4, 0), INDEX);
        C.due("2 none ahead of the first", x.cries(0, 2, -1, 0), INDEX);
        C.due("2 all, from -1 on", x.cries(0, 2, -1, 4), INDEX);
        x.sheet(1, 0, 0);
        C.due("2 none of none", x.cries(1, 0, 0, 0), -100);
        C.due("2 one of none", x.cries(1, 0, 0, 1), INDEX);
        C.due("2 none of none from 1 on", x.cries(1, 0, 1, 0), INDEX);
        C.due("2 SIZE just below 0", x.cries(1, 0, 0, -1), SIZE);
        C.due("2 sheet 3, the last, has nothing", x.cries(3, 0, 0, 0), NULL);
        C.due("2 sort 2, the last, is no byte's", x.cries(1, 2, 0, 0), CAST);
    }

    /** Six DAYS of 12 WORDS are 77 codes; a SHEET has 80 cells. */
    private static void longestText() {
        String all = String.join(";", TWELVE, TWELVE, TWELVE, TWELVE, TWELVE, TWELVE);
        dueText(all, 6);
        dueText(all + "a", -177);
        dueText(all + ";", -177);
        dueText(all + ";ab", -177);
        AddedCries x = new AddedCries();
        Check.write(x, 2, "abc" + all);
        C.due("2 to the 80th cell", x.cries(2, 2, 3, 77), 6);
        C.dueCry(x, 5, TWELVE);
        C.due("2 a cell too many", x.cries(2, 2, 3, 78), INDEX);
    }

    /** "WORDS are 0 .. 7, each of a kind: 0 WORD; 1 DENIAL; 2 DOUBT (all 0 at first)." kind(): "of which it was". */
    private static void wordsAndKinds() {
        AddedCries x = new AddedCries();
        int[][] due = {{-1, 0, UNKNOWN}, {0, 2, 0}, {0, 0, 2}, {0, -1, OUTSIDE}, {0, 3, OUTSIDE}, {0, 1, 0},
            {7, 1, 0}, {7, 2, 1}, {7, 3, OUTSIDE}, {7, 0, 2}, {8, 0, UNKNOWN}, {0, 0, 1}};
        for (int[] row : due) {
            C.due("3 kind(" + row[0] + ", " + row[1] + ")", x.kind(row[0], row[1]), row[2]);
        }
        for (int w = 0; w < 8; w++) {
            C.due("3 at first " + w, x.kind(w, 2), 0);
        }
        for (int w = 0; w < 8; w++) {
            C.due("3 each its own " + w, x.kind(w, 0), 2);
        }
    }

    /** "How many WORDS its CRY has (k -1), the k-th (0 on). UNKNOWN: DAY, the CRY has no such, k below -1." */
    private static void daysAndWordsOfADay() {
        AddedCries x = Check.of("h;b;c;d;e;" + TWELVE);
        int[][] due = {{-1, 0, UNKNOWN}, {0, -2, UNKNOWN}, {0, -1, 1}, {0, 0, 7}, {0, 1, UNKNOWN}, {5, -2, UNKNOWN},
            {5, -1, 12}, {5, 0, 0}, {5, 11, 3}, {5, 12, UNKNOWN}, {6, -1, UNKNOWN}, {6, 0, UNKNOWN}};
        for (int[] row : due) {
            C.due("4 ofDay(" + row[0] + ", " + row[1] + ")", x.ofDay(row[0], row[1]), row[2]);
        }
    }

    /** "As told by a place (0 .. as many as it has): how many it has then." */
    private static void addedPlaces() {
        AddedCries x = Check.of("a");
        C.due("5 ahead of the first place", x.add(-1, 1), UNKNOWN);
        C.due("5 beyond the last place", x.add(2, 1), UNKNOWN);
        C.due("5 the first place", x.add(0, 1), 2);
        C.dueCry(x, 0, "ba");
        C.due("5 the last place", x.add(2, 7), 3);
        C.dueCry(x, 0, "bah");
        C.due("5 the last but one", x.add(2, 0), 4);
        C.dueCry(x, 0, "baah");
        C.due("5 WORD -1", x.add(0, -1), UNKNOWN);
        C.due("5 WORD 8", x.add(0, 8), UNKNOWN);
        C.dueCry(x, 0, "baah");
    }

    /** "FULL: it has 12." */
    private static void addedTillFull() {
        AddedCries x = Check.of("abcdefghab");
        C.due("5 the eleventh", x.add(10, 2), 11);
        C.due("5 the twelfth, at the end", x.add(11, 3), 12);
        C.due("5 the thirteenth", x.add(12, 4), FULL);
        C.due("5 the thirteenth, ahead", x.add(0, 4), FULL);
        C.dueCry(x, 0, TWELVE);
        x = Check.of("bcdefghabcd");
        C.due("5 the twelfth, ahead", x.add(0, 0), 12);
        C.dueCry(x, 0, TWELVE);
        C.due("5 place 13", x.add(13, 4), UNKNOWN);
    }

    /** "The CRY of the last DAY": of the first, if it is the only one, of the sixth; STATE: "there are no DAYS". */
    private static void addedToTheLast() {
        AddedCries x = new AddedCries();
        C.due("5 no DAYS", x.add(0, 0), STATE);
        Check.cries(x, "a;b;c;d;e;f");
        C.due("5 to the sixth", x.add(1, 7), 2);
        C.dueCry(x, 4, "e");
        C.dueCry(x, 5, "fh");
        Check.cries(x, TWELVE + ";b");
        C.due("5 the DAY ahead is full", x.add(0, 0), 2);
        C.dueCry(x, 0, TWELVE);
        C.dueCry(x, 1, "ab");
    }

    /** "If all its WORDS are there, in that order, perhaps with others between." */
    private static void withinEdges() {
        AddedCries x = Check.of("a;" + TWELVE + ";bcdefghabcd;ah;aah;ha");
        C.due("6 one in itself", x.within(0, 0), 1);
        C.due("6 twelve in themselves", x.within(1, 1), 1);
        C.due("6 eleven in twelve", x.within(2, 1), 1);
        C.due("6 twelve in eleven", x.within(1, 2), 0);
        C.due("6 the first alone", x.within(0, 1), 1);
        C.due("6 others between", x.within(3, 1), 1);
        C.due("6 a WORD twice, there once", x.within(4, 3), 0);
        C.due("6 ha has one behind the first", x.within(5, 1), 1);
        C.due("6 in another order", x.within(3, 5), 0);
        C.due("6 all but the last", x.within(4, 0), 0);
        C.due("6 DAY 5", x.within(5, 5), 1);
        C.due("6 DAY 6", x.within(6, 5), UNKNOWN);
    }

    /** "LEFT OUT: the first DAY (1 on) in whose CRY that of the DAY ahead is not WITHIN"; "NONE". */
    private static void leftOutEdges() {
        C.due("7 no DAYS", new AddedCries().leftOut(), NONE);
        C.due("7 one DAY", Check.of("a").leftOut(), NONE);
        C.due("7 two DAYS, none", Check.of("a;a").leftOut(), NONE);
        C.due("7 two DAYS, the second", Check.of("a;b").leftOut(), 1);
        C.due("7 six DAYS, none", Check.of("a;a;ab;ab;cab;cabh").leftOut(), NONE);
        C.due("7 six DAYS, the sixth", Check.of("a;a;ab;ab;cab;abh").leftOut(), 5);
        C.due("7 six DAYS, each", Check.of("a;b;c;d;e;f").leftOut(), 1);
        C.due("7 twelve in twelve", Check.of(TWELVE + ";" + TWELVE).leftOut(), NONE);
        C.due("7 eleven of twelve", Check.of(TWELVE + ";abcdefghabc").leftOut(), 1);
    }

    // ---- 2 what is said

    /** a, b, c, f, g, h plain, d a DENIAL, e a DOUBT. */
    private static AddedCries ofKinds(String text) {
        AddedCries x = Check.of(text);
        x.kind(3, 1);
        x.kind(4, 2);
        return x;
    }

    private static void dueSaid(String cry, int want) {
        C.due("8 said by " + cry, ofKinds(cry).said(0), want);
    }

    /** "(Nothing at first)": a CRY without a WORD of kind 0 says nothing; a DENIAL, a DOUBT with nothing ahead or behind. */
    private static void saidNothingAtFirst() {
        dueSaid("d", 0);
        dueSaid("e", 0);
        dueSaid("dddddddddddd", 0);
        dueSaid("eeeeeeeeeeee", 0);
        dueSaid("a", 1);
        dueSaid("ad", 1);
        dueSaid("da", 0);
        dueSaid("ea", 0);
    }

    /** "As a set": bits 0 .. 7; twelve WORDS. */
    private static void saidAll() {
        C.due("8 all eight", Check.of("hgfedcba").said(0), 255);
        C.due("8 twelve", Check.of(TWELVE).said(0), 255);
        C.due("8 the last bit", Check.of("h").said(0), 128);
        AddedCries x = Check.of("a;b;c;d;e;h");
        C.due("8 DAY 5", x.said(5), 128);
        C.due("8 DAY 6", x.said(6), UNKNOWN);
        for (int w = 0; w < 8; w++) {
            x.kind(w, 2);
        }
        C.due("8 no WORD of kind 0", x.said(5), 0);
    }

    /** "If it is DENIED, it is SAID no more; then nothing is DENIED. A DENIAL turns about whether the next WORD of kind 0 is DENIED." */
    private static void saidDenied() {
        dueSaid("dab", 2);
        dueSaid("adab", 2);
        dueSaid("dda", 1);
        dueSaid("ddda", 0);
        dueSaid("ddddddddddda", 0);
        dueSaid("dddddddddda", 1);
        dueSaid("adah", 128);
        dueSaid("adaah", 129);
        dueSaid("abcfghabcfgd", 1 + 2 + 4 + 32 + 64 + 128);
        dueSaid("abcfghabcfdh", 1 + 2 + 4 + 32 + 64);
    }

    /** "A DOUBT does so, too, and the latest WORD of kind 0 (SAID or DENIED) is SAID no more." */
    private static void saidDoubted() {
        dueSaid("ae", 0);
        dueSaid("aeb", 0);
        dueSaid("abe", 1);
        dueSaid("abee", 1);
        dueSaid("abeec", 5);
        dueSaid("adbe", 1);
        dueSaid("bdae", 2);
        // b was SAID, then a is DENIED: the latest is a, so b stays.
        dueSaid("badae", 2);
        // It is the latest one of all, not the latest that is SAID.
        dueSaid("abdbe", 1);
        // A DENIAL between does not make it another one, and turns the DOUBT's turn back.
        dueSaid("abdec", 5);
        dueSaid("abcfghabcfge", 1 + 2 + 4 + 32 + 128);
    }

    private static void duePutIn(AddedCries x, int w, boolean want, int... row) {
        String call = "9 put into " + Check.cry(x, 0) + " for " + w + " " + want + ": ";
        C.due(call + "how many", x.putIn(0, w, want, -1), row.length);
        C.due(call + "the first", x.putIn(0, w, want, 0), row.length > 0 ? row[0] : NONE);
        C.due(call + "the second", x.putIn(0, w, want, 1), row.length > 1 ? row[1] : NONE);
        C.due(call + "no third", x.putIn(0, w, want, 2), UNKNOWN);
        C.due(call + "q -2", x.putIn(0, w, want, -2), UNKNOWN);
    }

    /** "The fewest WORDS (0 .. 2)": none, and then there is no first. */
    private static void putInNone() {
        duePutIn(ofKinds("a"), 0, true);
        duePutIn(ofKinds("a"), 1, false);
        duePutIn(ofKinds("da"), 0, false);
        duePutIn(ofKinds("d"), 7, false);
        duePutIn(ofKinds("abcfghabcfga"), 0, true);
        duePutIn(ofKinds("eeeeeeeeeeee"), 0, false);
    }

    /** "Each 10 times the place and the WORD (the place: how many WORDS of the CRY stand ahead of it)": 0 .. how many there are. */
    private static void putInOne() {
        duePutIn(ofKinds("b"), 0, true, 0);
        duePutIn(ofKinds("b"), 7, true, 7);
        duePutIn(ofKinds("h"), 7, false, 3);
        // Only behind the last of twelve DOUBTS it is not taken back.
        duePutIn(ofKinds("eeeeeeeeeeee"), 1, true, 121);
        duePutIn(ofKinds("eeeeeeeeeeee"), 7, true, 127);
        duePutIn(ofKinds("ee"), 1, true, 21);
        // The last b counts alone: denied at place 11 of a CRY of 12.
        duePutIn(ofKinds("bbbbbbbbbbbb"), 1, false, 113);
        duePutIn(ofKinds("bbbbbbbbbbb"), 1, false, 103);
        AddedCries x = Check.of("b");
        x.kind(7, 2);
        // Without a DENIAL a DOUBT ahead denies it, too.
        duePutIn(x, 1, false, 7);
        x = Check.of("cccccccccccb");
        x.kind(2, 2);
        x.kind(3, 2);
        // Eleven DOUBTS deny b; one more ahead turns it: the lower WORD of the two comes first.
        duePutIn(x, 1, true, 2);
    }

    /** "Of several the first as a row of numbers"; "of two the first place no greater than the second". */
    private static void putInTwo() {
        AddedCries x = Check.of("baaaaaaaaaaa");
        for (int w = 0; w < 8; w++) {
            x.kind(w, w == 1 ? 0 : 2);
        }
        // b alone is plain: it must stand behind the twelfth place, and one DOUBT more between the two.
        duePutIn(x, 1, true, 10, 121);
        x = Check.of("ba");
        for (int w = 0; w < 8; w++) {
            x.kind(w, w == 1 ? 0 : 2);
        }
        duePutIn(x, 1, true, 10, 21);
    }

    /** "Two at one place stand as they are told." */
    private static void putInByTwoAtOnePlace() {
        // b at place 0 is taken back by the DOUBT, but not if a stands between; b a is told so, not a b.
        duePutIn(ofKinds("e"), 1, true, 1, 0);
        duePutIn(ofKinds("eeeeeeeeeee"), 1, true, 1, 0);
        duePutIn(ofKinds("e"), 0, true, 0, 1);
        duePutIn(ofKinds("e"), 2, true, 2, 0);
        // A DENIAL ahead of the DOUBT and h behind it: its row is ahead of h a (7, 0).
        duePutIn(ofKinds("e"), 7, true, 3, 17);
    }

    /** "NONE: not by two; there are fewer." */
    private static void putInNotByTwo() {
        AddedCries x = Check.of("a");
        String[] calls = {"how many", "the first", "the second"};
        for (int q = -1; q <= 1; q++) {
            C.due("9 not by two: " + calls[q + 1], x.putIn(0, 0, false, q), NONE);
        }
        C.due("9 not by two: q 2", x.putIn(0, 0, false, 2), UNKNOWN);
        C.due("9 not by two: q -2", x.putIn(0, 0, false, -2), UNKNOWN);
        C.due("9 one, no second", ofKinds("a").putIn(0, 0, false, 1), NONE);
        C.due("9 none, no first", ofKinds("a").putIn(0, 0, true, 0), NONE);
    }

    /** "UNKNOWN: DAY, WORD; STATE: the WORD is of another kind." */
    private static void putInWordsAndDays() {
        AddedCries x = ofKinds("b;b;b;b;b;h");
        C.due("9 DAY -1", x.putIn(-1, 0, true, -1), UNKNOWN);
        C.due("9 DAY 0", x.putIn(0, 1, true, -1), 0);
        C.due("9 DAY 5", x.putIn(5, 7, true, -1), 0);
        C.due("9 DAY 6", x.putIn(6, 7, true, -1), UNKNOWN);
        C.due("9 WORD -1", x.putIn(0, -1, true, -1), UNKNOWN);
        C.due("9 WORD 0", x.putIn(0, 0, false, -1), 0);
        C.due("9 WORD 7", x.putIn(0, 7, false, -1), 0);
        C.due("9 WORD 8", x.putIn(0, 8, false, -1), UNKNOWN);
        C.due("9 kind 1", x.putIn(0, 3, false, -1), STATE);
        C.due("9 kind 2", x.putIn(0, 4, false, -1), STATE);
        x.kind(4, 0);
        C.due("9 kind 0 again", x.putIn(0, 4, false, -1), 0);
    }

    // ---- 3 one in another

    /** "How many choices of places": none, one, as many as there can be. */
    private static void waysEdges() {
        AddedCries x = Check.of("a;aaaaaaaaaaaa;aaaaaa;" + TWELVE + ";b;aaaaaaaaaaa");
        C.due("10 not WITHIN", x.ways(0, 4), 0);
        C.due("10 longer by one", x.ways(1, 5), 0);
        C.due("10 one in one", x.ways(0, 0), 1);
        C.due("10 twelve in twelve", x.ways(1, 1), 1);
        C.due("10 unlike twelve", x.ways(3, 3), 1);
        C.due("10 one in twelve", x.ways(0, 1), 12);
        C.due("10 eleven in twelve", x.ways(5, 1), 12);
        C.due("10 six in twelve", x.ways(2, 1), 924);
        C.due("10 DAY 5", x.ways(5, 5), 1);
        C.due("10 DAY 6", x.ways(6, 5), LOST);
        C.due("10 other DAY 6", x.ways(5, 6), LOST);
    }

    /** "PLACE of its k-th WORD: the first at which it can stand (in some way), the last"; "NONE: it is not WITHIN". */
    private static void placesEdges() {
        AddedCries x = Check.of("a;aaaaaaaaaaaa;aaaaaa;" + TWELVE + ";ab;b");
        C.due("11 one in itself, first", x.place(0, 0, 0, 0), 0);
        C.due("11 one in itself, last", x.place(0, 0, 0, 1), 0);
        C.due("11 one, first", x.place(0, 1, 0, 0), 0);
        C.due("11 one, last", x.place(0, 1, 0, 1), 11);
        C.due("11 the first of six, first", x.place(2, 1, 0, 0), 0);
        C.due("11 the first of six, last", x.place(2, 1, 0, 1), 6);
        C.due("11 the last of six, first", x.place(2, 1, 5, 0), 5);
        C.due("11 the last of six, last", x.place(2, 1, 5, 1), 11);
        C.due("11 no seventh of six", x.place(2, 1, 6, 0), UNKNOWN);
        C.due("11 the twelfth of twelve, first", x.place(3, 3, 11, 0), 11);
        C.due("11 the twelfth of twelve, last", x.place(3, 3, 11, 1), 11);
        C.due("11 no thirteenth of twelve", x.place(3, 3, 12, 0), UNKNOWN);
        // b cannot stand at place 1 as the last: at 9 it can, with a at 0 or 8 ahead.
        C.due("11 b of ab, first", x.place(4, 3, 1, 0), 1);
        C.due("11 b of ab, last", x.place(4, 3, 1, 1), 9);
        C.due("11 a of ab, last", x.place(4, 3, 0, 1), 8);
        C.due("11 not WITHIN", x.place(5, 1, 0, 0), NONE);
        C.due("11 not WITHIN, as it is longer", x.place(1, 0, 11, 1), NONE);
        C.due("11 what -1", x.place(0, 1, 0, -1), OUTSIDE);
        C.due("11 what 2", x.place(0, 1, 0, 2), OUTSIDE);
    }

    /** "At which DAYS (the last DAY itself, too) a place of the last DAY's CRY can be one of the WORDS that were there". */
    private static void mayBeEdges() {
        C.due("12 no DAYS", new AddedCries().mayBe(0), UNKNOWN);
        C.due("12 one DAY", Check.of("a").mayBe(0), 1);
        AddedCries x = Check.of("a;a;a;a;a;a");
        C.due("12 six DAYS", x.mayBe(0), 63);
        C.due("12 place 1 of one", x.mayBe(1), UNKNOWN);
        C.due("12 place -1", x.mayBe(-1), UNKNOWN);
        x = Check.of("ab;ba;da;" + TWELVE);
        // ab can stand at 0 or 8 and 1 or 9, ba at 1 and 8, da at 3 and 8.
        int[] due = {1 + 8, 1 + 2 + 8, 8, 4 + 8, 8, 8, 8, 8, 1 + 2 + 4 + 8, 1 + 8, 8, 8, UNKNOWN};
        for (int p = 0; p <= 12; p++) {
            C.due("12 of twelve, place " + p, x.mayBe(p), due[p]);
        }
        C.due("12 not WITHIN", Check.of("ba;ab").mayBe(0), 2);
        C.due("12 longer than the last", Check.of("aa;a").mayBe(0), 2);
    }

    /** "COMMON: how many WORDS the longest CRY has that is WITHIN both"; "SHORTEST: the shortest CRY in which two are WITHIN". */
    private static void commonEdges() {
        AddedCries x = Check.of("a;b;" + TWELVE + ";hgfehgfehgfe;" + TWELVE + ";abcdabcdabcd");
        int[][] due = {{0, 0, 1, 1}, {0, 1, 0, 2}, {2, 4, 12, 12}, {3, 5, 0, 24}, {5, 3, 0, 24}, {0, 2, 1, 12}, {2, 0, 1, 12}};
        for (int[] row : due) {
            C.due("13 COMMON " + row[0] + " " + row[1], x.both(row[0], row[1], 0), row[2]);
            C.due("13 SHORTEST " + row[0] + " " + row[1], x.both(row[0], row[1], 1), row[3]);
        }
        C.due("13 what -1", x.both(0, 0, -1), OUTSIDE);
        C.due("13 what 2", x.both(0, 0, 2), OUTSIDE);
        C.due("13 DAY 6", x.both(6, 0, 0), UNKNOWN);
        C.due("13 other DAY 6", x.both(0, 6, 0), UNKNOWN);
    }

    /** "HOW MANY (q -1), the q-th WORD of the first. UNKNOWN: it has no such, q below -1." */
    private static void shortestEdges() {
        AddedCries x = Check.of("a;h;" + TWELVE + ";hgfehgfehgfe;abcdabcdabcd;" + TWELVE);
        int[][] one = {{-2, MIN}, {-1, 1}, {0, 0}, {1, MIN}};
        dueShortest(x, 0, 0, one);
        int[][] two = {{-2, MIN}, {-1, 2}, {0, 0}, {1, 7}, {2, MIN}};
        dueShortest(x, 0, 1, two);
        dueShortest(x, 1, 0, two);
        int[][] most = {{-2, MIN}, {-1, 2704156}, {0, 0}, {11, 3}, {12, 7}, {23, 4}, {24, MIN}};
        dueShortest(x, 3, 4, most);
        dueShortest(x, 4, 3, most);
        int[][] itself = {{-1, 1}, {0, 0}, {11, 3}, {12, MIN}};
        dueShortest(x, 2, 5, itself);
        dueShortest(x, 0, 2, itself);
    }

    /** Rows of q and what is due, MIN for LOST. */
    private static void dueShortest(AddedCries x, int day, int other, int[][] due) {
        for (int[] row : due) {
            C.due("14 shortest(" + day + ", " + other + ", " + row[0] + ")",
                x.shortest(day, other, row[0]), row[1] == MIN ? LOST : row[1]);
        }
    }

    /** "SHORTEST of three: how many WORDS": 1 .. 36. */
    private static void threeEdges() {
        AddedCries x = Check.of("a;" + TWELVE + ";aaaaaaaaaaaa;bbbbbbbbbbbb;" + TWELVE + ";hhhhhhhhhhhh");
        C.due("15 one alike", x.three(0, 0, 0), 1);
        C.due("15 twelve alike", x.three(1, 4, 1), 12);
        C.due("15 the most", x.three(2, 3, 5), 36);
        C.due("15 the most, in another order", x.three(5, 3, 2), 36);
        C.due("15 one of them is WITHIN another one", x.three(0, 2, 5), 24);
        C.due("15 a DAY 6", x.three(6, 5, 5), UNKNOWN);
        C.due("15 b DAY 6", x.three(5, 6, 5), UNKNOWN);
        C.due("15 c DAY 6", x.three(5, 5, 6), UNKNOWN);
        C.due("15 c DAY -1", x.three(0, 0, -1), UNKNOWN);
    }

    // ---- 4 lost days, breaths

    private static void dueLostDay(AddedCries x, int day, int other, int... due) {
        C.due("16 lostDay(" + day + ", " + other + ", -1)", x.lostDay(day, other, -1), LOST);
        for (int n = 0; n <= 12; n++) {
            C.due("16 lostDay(" + day + ", " + other + ", " + n + ")", x.lostDay(day, other, n), due[n]);
        }
        C.due("16 lostDay(" + day + ", " + other + ", 13)", x.lostDay(day, other, 13), LOST);
    }

    /** "n (0 .. 12)": none shorter than the one, none longer than the other one, none if the one is not WITHIN it. */
    private static void lostDayEdges() {
        AddedCries x = Check.of("a;h;aaaaaaaaaaaa;aaaaaaaaaaa;abh;" + TWELVE);
        dueLostDay(x, 0, 0, 0, 1, 0, 0, 0, 0, 0, 0, 0, 0, 0, 0, 0);
        dueLostDay(x, 0, 1, 0, 0, 0, 0, 0, 0, 0, 0, 0, 0, 0, 0, 0);
        dueLostDay(x, 1, 0, 0, 0, 0, 0, 0, 0, 0, 0, 0, 0, 0, 0, 0);
        dueLostDay(x, 0, 2, 0, 1, 1, 1, 1, 1, 1, 1, 1, 1, 1, 1, 1);
        dueLostDay(x, 2, 2, 0, 0, 0, 0, 0, 0, 0, 0, 0, 0, 0, 0, 1);
        dueLostDay(x, 3, 2, 0, 0, 0, 0, 0, 0, 0, 0, 0, 0, 0, 1, 1);
        dueLostDay(x, 2, 3, 0, 0, 0, 0, 0, 0, 0, 0, 0, 0, 0, 0, 0);
        dueLostDay(x, 1, 4, 0, 1, 2, 1, 0, 0, 0, 0, 0, 0, 0, 0, 0);
        C.due("16 h in twelve, one", x.lostDay(1, 5, 1), 1);
        // One of the twelve is left out, but not h.
        C.due("16 h in twelve, eleven", x.lostDay(1, 5, 11), 11);
        C.due("16 h in twelve, twelve", x.lostDay(1, 5, 12), 1);
        C.due("16 DAY 6", x.lostDay(6, 5, 1), LOST);
        C.due("16 other DAY 6", x.lostDay(5, 6, 1), LOST);
    }

    /** "How many unlike CRIES of n WORDS are WITHIN its CRY"; "n (0 .. 12)". */
    private static void rootsEdges() {
        AddedCries x = Check.of("a;ab;aaaaaaaaaaaa;b;c;" + TWELVE);
        C.due("17 n -1", x.roots(5, -1), LOST);
        C.due("17 n 0 of twelve", x.roots(5, 0), 1);
        C.due("17 n 1 of twelve", x.roots(5, 1), 8);
        C.due("17 n 11 of twelve", x.roots(5, 11), 12);
        C.due("17 n 12 of twelve", x.roots(5, 12), 1);
        C.due("17 n 13 of twelve", x.roots(5, 13), LOST);
        C.due("17 n 0 of one", x.roots(0, 0), 1);
        C.due("17 n 1 of one", x.roots(0, 1), 1);
        C.due("17 n 2 of one", x.roots(0, 2), 0);
        C.due("17 n 12 of one", x.roots(0, 12), 0);
        C.due("17 n 1 of two", x.roots(1, 1), 2);
        C.due("17 n 13 of one", x.roots(0, 13), LOST);
        for (int n = 0; n <= 12; n++) {
            C.due("17 unlike of twelve alike " + n, x.roots(2, n), 1);
        }
        C.due("17 DAY 6", x.roots(6, 0), LOST);
    }

    private static void dueBreaths(String cry, int... due) {
        AddedCries x = ofKinds(cry);
        C.due("18 breaths of " + cry + " by 0", x.breaths(0, 0), OUTSIDE);
        for (int b = 1; b <= due.length; b++) {
            C.due("18 breaths of " + cry + " by " + b, x.breaths(0, b), due[b - 1]);
        }
        C.due("18 breaths of " + cry + " by 12", x.breaths(0, 12), 1);
        C.due("18 breaths of " + cry + " by 13", x.breaths(0, 13), OUTSIDE);
    }

    /** "The fewest parts, each of 1 to b WORDS (1 .. 12)". */
    private static void breathsEdges() {
        dueBreaths("a", 1, 1);
        dueBreaths("ab", 2, 1, 1);
        dueBreaths("abcfghabcfgh", 12, 6, 4, 3, 3, 2, 2, 2, 2, 2, 2, 1);
        dueBreaths("abcfghabcfg", 11, 6, 4, 3, 3, 2, 2, 2, 2, 2, 1, 1);
        C.due("18 DAY 5", Check.of("a;a;a;a;a;ab").breaths(5, 1), 2);
        C.due("18 DAY 6", Check.of("a;a;a;a;a;ab").breaths(6, 1), UNKNOWN);
    }

    /** "None of which ends with a DENIAL (but the last one may); NONE." A DOUBT is a DENIAL, too. */
    private static void breathsWithDenials() {
        dueBreaths("d", 1, 1);
        dueBreaths("e", 1, 1);
        dueBreaths("ad", 2, 1);
        dueBreaths("ae", 2, 1);
        dueBreaths("da", NONE, 1);
        dueBreaths("ea", NONE, 1);
        dueBreaths("dd", NONE, 1);
        dueBreaths("adda", NONE, NONE, 2, 1);
        dueBreaths("dededededede", NONE, NONE, NONE, NONE, NONE, NONE, NONE, NONE, NONE, NONE, NONE, 1);
        dueBreaths("addddddddddd", NONE, NONE, NONE, NONE, NONE, NONE, NONE, NONE, NONE, NONE, 2, 1);
        dueBreaths("ddddddddddda", NONE, NONE, NONE, NONE, NONE, NONE, NONE, NONE, NONE, NONE, NONE, 1);
    }

    // ---- 5 parts

    private static void dueOnce(String cries, int many, int place) {
        AddedCries x = Check.of(cries);
        C.due("19 once of " + cries + ": how many", x.once(0, 1, 0), many);
        C.due("19 once of " + cries + ": the place", x.once(0, 1, 1), place);
        C.due("19 once of " + cries + ": what -1", x.once(0, 1, -1), OUTSIDE);
        C.due("19 once of " + cries + ": what 2", x.once(0, 1, 2), OUTSIDE);
    }

    /** "How many; the first place of it in the first CRY"; "NONE, if there are none". */
    private static void onceEdges() {
        dueOnce("a;b", 0, NONE);
        dueOnce("aaaaaaaaaaaa;bbbbbbbbbbbb", 0, NONE);
        dueOnce("a;a", 1, 0);
        dueOnce("aaaaaaaaaaab;b", 1, 11);
        dueOnce("aaaaaaaaaaab;bbbbbbbbbbbb", 1, 11);
        dueOnce("baaaaaaaaaab;b", 1, 0);
        dueOnce("b;aaaaaaaaaaab", 1, 0);
        dueOnce(TWELVE + ";" + TWELVE, 12, 0);
        dueOnce(TWELVE + ";bcdefghabcd", 11, 1);
        dueOnce("bcdefghabcd;" + TWELVE, 11, 0);
        // ab and cd are both the longest: the place of the first one.
        dueOnce("abhcd;cdab", 2, 0);
        dueOnce(TWELVE + ";cd", 2, 2);
        AddedCries x = Check.of("a;a;a;a;a;ha");
        C.due("19 DAY 5", x.once(5, 0, 1), 1);
        C.due("19 DAY 6", x.once(6, 0, 1), UNKNOWN);
        C.due("19 other DAY 6", x.once(0, 6, 1), UNKNOWN);
    }

    /** "How many WORDS of a CRY were in it already, counted each (so of a b a c a: 2)." */
    private static void twiceEdges() {
        AddedCries x = Check.of("a;aaaaaaaaaaaa;" + TWELVE + ";abaca;abcdefgh;hh");
        int[] due = {0, 11, 4, 2, 0, 1, UNKNOWN};
        for (int day = 0; day <= 6; day++) {
            C.due("20 DAY " + day, x.twice(day), due[day]);
        }
        C.due("20 DAY -1", x.twice(-1), UNKNOWN);
    }

    // ---- 6 sheets, parts

    /** "SHEETS 0 .. 3"; "a SORT: 0 bytes, 1 shorts, 2 ints"; "a row of 0 .. 80 numbers". */
    private static void sheetNumbers() {
        AddedCries x = new AddedCries();
        int[][] due = {{-1, 0, 1, UNKNOWN}, {0, 0, 1, 1}, {3, 0, 1, 1}, {4, 0, 1, UNKNOWN}, {1, -1, 1, OUTSIDE}, {1, 0, 1, 1},
            {1, 1, 1, 1}, {1, 2, 1, 1}, {1, 3, 1, OUTSIDE}, {2, 0, -1, SIZE}, {2, 0, 0, 1}, {2, 0, 80, 1}, {2, 0, 81, OUTSIDE}};
        for (int[] row : due) {
            C.due("21 sheet(" + row[0] + ", " + row[1] + ", " + row[2] + ")", x.sheet(row[0], row[1], row[2]), row[3]);
            C.due("21 fault()", x.fault(), row[3] == SIZE ? 4 : 0);
        }
        x.put(0, 0, 5);
        x.put(3, 0, 7);
        C.due("21 each its own, 0", x.cell(0, 0, 0), 5);
        C.due("21 each its own, 1", x.cell(1, 0, 2), 0);
        C.due("21 each its own, 2", x.cell(2, 79, 0), 0);
        C.due("21 each its own, 3", x.cell(3, 0, 0), 7);
    }

    /** put(), cell(): "INDEX", in rows of 80, 1 and 0 cells; INDEX is told by fault(). */
    private static void rowsOfCells() {
        for (int sort = 0; sort < 3; sort++) {
            AddedCries x = new AddedCries();
            int[] sizes = {80, 1, 0};
            for (int size : sizes) {
                x.sheet(0, sort, size);
                for (int i = -1; i <= size; i += i < 1 || i >= 78 ? 1 : 77) {
                    boolean is = i >= 0 && i < size;
                    String cell = " cell " + i + " of " + size;
                    C.due("23" + cell, x.put(0, i, i + 3), is ? 1 : INDEX);
                    C.due("23 fault()" + cell, x.fault(), is ? 0 : 3);
                    C.due("24" + cell, x.cell(0, i, sort), is ? i + 3 : LOST);
                    C.due("24 fault()" + cell, x.fault(), is ? 0 : 3);
                }
            }
            C.due("24 first of none", x.cell(0, 0, sort), LOST);
        }
    }

    /** "A SHEET gets a new row"; "numbers (0 at first)". */
    private static void rowsAreNew() {
        AddedCries x = new AddedCries();
        x.sheet(0, 2, 80);
        for (int i = 0; i < 80; i++) {
            x.put(0, i, -1);
        }
        x.sheet(0, 0, 1);
        C.due("21 shorter: 0 at first", x.cell(0, 0, 0), 0);
        C.due("21 shorter: no second", x.put(0, 1, 1), INDEX);
        C.due("21 another SORT", x.cell(0, 0, 2), LOST);
        x.put(0, 0, 9);
        x.sheet(0, 2, 80);
        for (int i = 0; i < 80; i++) {
            C.due("21 longer: 0 at first " + i, x.cell(0, i, 2), 0);
        }
        x.put(0, 79, 9);
        x.sheet(0, 2, 80);
        C.due("21 as long: 0 at first", x.cell(0, 79, 2), 0);
    }

    /** "A SHEET has nothing: 1; 0: it had nothing." */
    private static void rowsLost() {
        AddedCries x = new AddedCries();
        C.due("22 nothing at first", x.lose(0), 0);
        for (int k = 0; k < 4; k++) {
            x.sheet(k, k % 3, k);
        }
        int[] due = {UNKNOWN, 1, 1, 1, 1, UNKNOWN};
        for (int k = -1; k <= 4; k++) {
            C.due("22 lose " + k, x.lose(k), due[k + 1]);
        }
        for (int k = 0; k < 4; k++) {
            C.due("22 lose again " + k, x.lose(k), 0);
            C.due("22 nothing to put in " + k, x.put(k, 0, 1), NULL);
            C.due("22 fault() " + k, x.fault(), 1);
        }
        x.sheet(3, 2, 3);
        C.due("22 a new row", x.cell(3, 2, 2), 0);
        C.due("22 lose the new row", x.lose(3), 1);
    }

    private static void dueCut(int sort, int[][] due) {
        AddedCries x = new AddedCries();
        x.sheet(1, sort, 80);
        for (int[] row : due) {
            C.due("23 put", x.put(1, 79, row[0]), 1);
            C.due("23 " + row[0] + " cut to sort " + sort, x.cell(1, 79, sort), row[1]);
            C.due("23 no other cell", x.cell(1, 78, sort), 0);
        }
    }

    /** "What comes to a cell of it is cut to its SORT (with its sign)." */
    private static void cutToBytes() {
        dueCut(0, new int[][] {{0, 0}, {-1, -1}, {127, 127}, {128, -128}, {255, -1}, {256, 0}, {-128, -128}, {-129, 127},
            {-256, 0}, {32767, -1}, {32768, 0}, {65536 + 5, 5}, {MAX, -1}, {MIN, 0}});
    }

    private static void cutToShorts() {
        dueCut(1, new int[][] {{0, 0}, {-1, -1}, {127, 127}, {128, 128}, {255, 255}, {256, 256}, {32767, 32767}, {32768, -32768},
            {65535, -1}, {65536, 0}, {-32768, -32768}, {-32769, 32767}, {MAX, -1}, {MIN, 0}});
    }

    private static void cutToInts() {
        dueCut(2, new int[][] {{0, 0}, {-1, -1}, {128, 128}, {32768, 32768}, {65536, 65536}, {-32769, -32769},
            {MAX, MAX}, {MIN, MIN}});
    }

    private static AddedCries ofEighty() {
        AddedCries x = new AddedCries();
        x.sheet(0, 2, 80);
        for (int i = 0; i < 80; i++) {
            x.put(0, i, i + 1);
        }
        return x;
    }

    /** "n cells of a SHEET from i on go to another one from j on: n. INDEX: i, j, n below 0 or beyond." */
    private static void copiedToTheEnds() {
        AddedCries x = ofEighty();
        x.sheet(1, 2, 80);
        x.sheet(2, 2, 0);
        int[][] due = {{0, 0, 1, 0, 81, INDEX}, {0, 1, 1, 0, 80, INDEX}, {0, 0, 1, 1, 80, INDEX}, {0, 80, 1, 0, 1, INDEX},
            {0, 0, 1, 80, 1, INDEX}, {0, 80, 1, 80, 0, 0}, {0, 81, 1, 0, 0, INDEX}, {0, 0, 1, 81, 0, INDEX}, {0, 0, 2, 0, 0, 0},
            {2, 0, 0, 80, 0, 0}, {0, 0, 2, 0, 1, INDEX}, {2, 0, 0, 0, 1, INDEX}, {2, 1, 0, 0, 0, INDEX}, {0, 0, 1, 0, -1, INDEX},
            {0, -1, 1, 0, 1, INDEX}, {0, 0, 1, -1, 1, INDEX}, {0, -1, 1, 0, 0, INDEX}, {0, 0, 1, -1, 0, INDEX}};
        for (int[] row : due) {
            String call = "25 copy(" + row[0] + ", " + row[1] + ", " + row[2] + ", " + row[3] + ", " + row[4] + ")";
            C.due(call, x.copy(row[0], row[1], row[2], row[3], row[4]), row[5]);
            C.due(call + ": fault()", x.fault(), row[5] == INDEX ? 3 : 0);
        }
        C.due("25 nothing has come", x.cell(1, 0, 2) + x.cell(1, 79, 2), 0);
        C.due("25 the last cell to the first", x.copy(0, 79, 1, 0, 1), 1);
        C.due("25 the first has come", x.cell(1, 0, 2), 80);
        C.due("25 the second has not", x.cell(1, 1, 2), 0);
        C.due("25 the first cell to the last", x.copy(0, 0, 1, 79, 1), 1);
        C.due("25 the last has come", x.cell(1, 79, 2), 1);
        C.due("25 all cells", x.copy(0, 0, 1, 0, 80), 80);
        for (int i = 0; i < 80; i++) {
            C.due("25 cell " + i, x.cell(1, i, 2), i + 1);
        }
        C.due("25 the first SHEET stays", x.cell(0, 79, 2), 80);
    }

    /** "(Perhaps the same)"; "as they were": cells that come to where others are yet to be taken from. */
    private static void copiedOntoItself() {
        AddedCries x = ofEighty();
        C.due("25 onward by one", x.copy(0, 0, 0, 1, 79), 79);
        for (int i = 0; i < 80; i++) {
            C.due("25 onward, cell " + i, x.cell(0, i, 2), Math.max(i, 1));
        }
        C.due("25 onward by two is beyond", x.copy(0, 0, 0, 2, 79), INDEX);
        x = ofEighty();
        C.due("25 back by one", x.copy(0, 1, 0, 0, 79), 79);
        for (int i = 0; i < 80; i++) {
            C.due("25 back, cell " + i, x.cell(0, i, 2), Math.min(i + 2, 80));
        }
        C.due("25 all onto itself", x.copy(0, 0, 0, 0, 80), 80);
        C.due("25 stays", x.cell(0, 0, 2), 2);
    }

    /** "In how many DAYS' CRIES it is": none, all six; twice in one counts once. */
    private static void tellingEdges() {
        AddedCries x = new AddedCries();
        C.due("26 no DAYS", x.tell(0), 0);
        Check.cries(x, "haa;a;ba;a;ca;bbbbbbbbbbba");
        int[] due = {UNKNOWN, 6, 2, 1, 0, 0, 0, 0, 1, UNKNOWN};
        for (int w = -1; w <= 8; w++) {
            C.due("26 WORD " + w, x.tell(w), due[w + 1]);
        }
        C.due("26 WORD far", x.tell(MAX) + x.tell(MIN), 2 * UNKNOWN);
    }

    /** "DENIAL (2): what WORD's gives, and 100. DOUBT (3): what DENIAL's gives, and what WORD's gives"; "as they begin". */
    private static void tellingOfKinds() {
        int[] trace = {1, 2 * 31 + 1, ((3 * 31 + 2) * 31 + 1) * 31 + 1};
        int[] inNone = {0, 100, 100};
        int[] inSix = {6, 106, 112};
        for (int kind = 0; kind < 3; kind++) {
            AddedCries x = new AddedCries();
            x.kind(0, kind);
            C.due("26 in none, kind " + kind, x.tell(0), inNone[kind]);
            C.due("26 TRACE, kind " + kind, x.trace(), trace[kind]);
            Check.cries(x, "a;a;a;a;a;a");
            C.due("26 in six, kind " + kind, x.tell(0), inSix[kind]);
        }
    }

    /** "The own number of the one that is told, its place in its list; DOUBTS have their own (5): 40." */
    private static void singingEdges() {
        int[] trace = {4, 4, 5};
        for (int kind = 0; kind < 3; kind++) {
            for (int w = 0; w < 8; w++) {
                AddedCries x = new AddedCries();
                x.kind(w, kind);
                C.due("27 WORD " + w + " of kind " + kind, x.sing(w), kind == 2 ? 40 : w);
                C.due("27 TRACE of kind " + kind, x.trace(), trace[kind]);
                C.due("27 WORD -1", x.sing(-1), UNKNOWN);
                C.due("27 WORD 8", x.sing(8), UNKNOWN);
                C.due("27 TRACE stays", x.trace(), trace[kind]);
            }
        }
    }

    /** "CAST: it is none (each is a WORD, too; a DOUBT is a DENIAL)." */
    private static void takenAs() {
        int[][] due = {{OUTSIDE, 1, CAST, CAST, OUTSIDE}, {OUTSIDE, 1, 1, CAST, OUTSIDE}, {OUTSIDE, 1, 1, 1, OUTSIDE}};
        int[] words = {0, 7};
        for (int w : words) {
            AddedCries x = new AddedCries();
            for (int is = 0; is < 3; is++) {
                x.kind(w, is);
                for (int as = -1; as <= 3; as++) {
                    C.due("28 WORD " + w + " of kind " + is + " as " + as, x.as(w, as), due[is][as + 1]);
                    C.due("28 fault()", x.fault(), due[is][as + 1] == CAST ? 2 : 0);
                }
            }
            C.due("28 WORD -1", x.as(-1, 0), UNKNOWN);
            C.due("28 WORD 8", x.as(8, 0), UNKNOWN);
        }
    }

    /** "TRACE, an int that wraps, 0 at first, becomes 31 times it and the number." */
    private static void traceWraps() {
        AddedCries x = new AddedCries();
        C.due("29 at first", x.trace(), 0);
        // 31 times 118333824 and 4 is 3668348548, and that less 2 to the 32nd -626618748.
        int[] due = {4, 128, 3972, 123136, 3817220, 118333824, -626618748, 2049655296};
        for (int want : due) {
            x.sing(7);
            C.due("29 TRACE", x.trace(), want);
        }
        x.kind(7, 2);
        // A DOUBT's TELLING leaves 3, 2, 1, 1, beginning with a TRACE that wraps at each.
        x.tell(7);
        long want = 2049655296L;
        int[] numbers = {3, 2, 1, 1};
        for (int number : numbers) {
            want = (int) (want * 31 + number);
        }
        C.due("29 TRACE of a DOUBT", x.trace(), want);
    }

    /** fault(): "the FAULT of the latest call that names one: 0: it came to none, or was refused". */
    private static void faultOfTheLatest() {
        Town.Call[] names = {x -> x.cries(3, 2, 0, 2), x -> x.sheet(2, 0, 1), x -> x.put(0, 0, 1), x -> x.cell(0, 0, 0),
            x -> x.copy(0, 0, 0, 1, 2), x -> x.as(0, 0)};
        long[] due = {1, 1, 1, 5, 2, 1};
        Town.Call[] refused = {x -> x.cries(4, 2, 0, 2), x -> x.sheet(4, 0, 1), x -> x.put(4, 0, 1), x -> x.cell(4, 0, 0),
            x -> x.copy(0, 0, 4, 1, 2), x -> x.as(8, 0)};
        for (int call = 0; call < names.length; call++) {
            AddedCries x = Town.some();
            Town.leave(x, Town.NULL);
            C.due("30 call " + call, names[call].on(x), due[call]);
            C.due("30 came to none " + call, x.fault(), 0);
            x.put(0, -1, 0);
            C.due("30 INDEX " + call, x.fault(), 3);
            refused[call].on(x);
            C.due("30 was refused " + call, x.fault(), 0);
        }
    }

    /** Calls that name no FAULTS leave what the latest one left, though they change other things. */
    private static void faultIsKept() {
        Town.Call[] others = {x -> x.kind(0, 1), x -> x.add(0, 0), x -> x.lose(0), x -> x.lose(2), x -> x.tell(0),
            x -> x.sing(4), x -> x.leftOut(), x -> x.fault(), x -> x.trace(), x -> x.many()};
        for (int call = 0; call < others.length; call++) {
            AddedCries x = Town.some();
            x.put(0, 3, 0);
            others[call].on(x);
            C.due("30 kept by " + call, x.fault(), 3);
        }
    }

    /** "How many DAYS there are": 0 .. 6. */
    private static void manyDays() {
        AddedCries x = new AddedCries();
        C.due("31 none", x.many(), 0);
        C.due("31 six are taken", Check.cries(x, "a;a;a;a;a;a"), 6);
        C.due("31 six", x.many(), 6);
        C.due("31 seven are not taken", Check.cries(x, "a;a;a;a;a;a;a"), -111);
        C.due("31 still six", x.many(), 6);
        C.due("31 one is taken", Check.cries(x, "a"), 1);
        C.due("31 one", x.many(), 1);
    }
}
