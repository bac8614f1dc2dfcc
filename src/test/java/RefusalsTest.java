/**
 * "REFUSALS, in the order in which a call's line tells them: UNKNOWN, OUTSIDE, STATE, FULL; they change nothing
 * (but fault(), of a call that names FAULTS)." "FAULTS: of a call the first that is come to, in the order told;
 * it answers -10 less it (LOST, where a long is answered) and changes nothing; fault() tells it."
 * Each refusal and each fault of each call stands here: alone, and with those that its line tells behind it.
 */
public final class RefusalsTest {
    private static final int MIN = Integer.MIN_VALUE, MAX = Integer.MAX_VALUE;
    private static final int UNKNOWN = -1, OUTSIDE = -2, STATE = -3, FULL = -4, NONE = -9;
    private static final long LOST = Long.MIN_VALUE;
    private static final Check C = new Check();

    public static void main(String[] args) {
        cries();
        criesFaults();
        criesFirstFault();
        kind();
        ofDay();
        add();
        within();
        said();
        putIn();
        ways();
        place();
        mayBe();
        both();
        shortest();
        three();
        lostDay();
        roots();
        breaths();
        once();
        twice();
        sheet();
        lose();
        put();
        cell();
        copy();
        copyFaults();
        tellAndSing();
        as();
        withoutDays();
        askingChangesNothing();
        C.end();
    }

    /** A refusal of a call that names no FAULTS: fault() stays, too. */
    private static void refused(String call, long want, Town.Call of) {
        Town.changesNothing(C, call, Town::some, of, want, Town.KEPT);
    }

    /** A refusal of a call that names FAULTS: it came to none. */
    private static void refusedFaultless(String call, long want, Town.Call of) {
        Town.changesNothing(C, call, Town::some, of, want, Town.NO_FAULT);
    }

    private static void fails(String call, int fault, Town.Call of) {
        Town.changesNothing(C, call, Town::some, of, -10 - fault, fault);
    }

    private static void failsLost(String call, int fault, Town.Call of) {
        Town.changesNothing(C, call, Town::some, of, LOST, fault);
    }

    private interface OfNumber {
        long on(AddedCries x, int number);
    }

    /** Refused for each number that lies just outside 0 .. last, and for those far off. */
    private static void refusedBeyond(int last, String call, long want, OfNumber of) {
        refusedBeyond(last, call, want, Town.KEPT, of);
    }

    private static void refusedFaultlessBeyond(int last, String call, long want, OfNumber of) {
        refusedBeyond(last, call, want, Town.NO_FAULT, of);
    }

    private static void refusedBeyond(int last, String call, long want, int fault, OfNumber of) {
        int[] none = {-1, last + 1, MAX, MIN};
        for (int no : none) {
            Town.changesNothing(C, call + " " + no, Town::some, x -> of.on(x, no), want, fault);
        }
    }

    private static void cries() {
        refusedFaultlessBeyond(3, "2 SHEET", UNKNOWN, (x, k) -> x.cries(k, 0, 0, 1));
        refusedFaultlessBeyond(3, "2 SHEET ahead of sort and all FAULTS", UNKNOWN, (x, k) -> x.cries(k, 3, -1, -1));
        refusedFaultlessBeyond(2, "2 sort", OUTSIDE, (x, sort) -> x.cries(3, sort, 0, 2));
        refusedFaultless("2 sort ahead of SIZE and INDEX", OUTSIDE, x -> x.cries(3, 3, -1, -1));
        refusedFaultless("2 sort ahead of NULL", OUTSIDE, x -> x.cries(2, 3, 0, 1));
    }

    private static void criesFaults() {
        fails("2 CAST to bytes", Town.CAST, x -> x.cries(3, 0, 0, 2));
        fails("2 CAST to shorts", Town.CAST, x -> x.cries(3, 1, 0, 2));
        fails("2 CAST of bytes to ints", Town.CAST, x -> x.cries(0, 2, 0, 2));
        fails("2 CAST of shorts to bytes", Town.CAST, x -> x.cries(1, 0, 0, 2));
        fails("2 CAST ahead of SIZE", Town.CAST, x -> x.cries(3, 0, 0, -1));
        fails("2 CAST ahead of INDEX", Town.CAST, x -> x.cries(3, 0, -1, 1));
        for (int sort = 0; sort < 3; sort++) {
            int any = sort;
            fails("2 nothing is no CAST to " + sort, Town.NULL, x -> x.cries(2, any, 0, 1));
        }
        fails("2 NULL ahead of SIZE", Town.NULL, x -> x.cries(2, 0, 0, -1));
        fails("2 NULL ahead of INDEX", Town.NULL, x -> x.cries(2, 0, -1, 0));
        fails("2 SIZE", Town.SIZE, x -> x.cries(3, 2, 0, -1));
        fails("2 SIZE far", Town.SIZE, x -> x.cries(3, 2, 0, MIN));
        fails("2 SIZE ahead of INDEX below", Town.SIZE, x -> x.cries(3, 2, -1, -1));
        fails("2 SIZE ahead of INDEX beyond", Town.SIZE, x -> x.cries(3, 2, 13, -1));
        fails("2 INDEX: i below", Town.INDEX, x -> x.cries(3, 2, -1, 2));
        fails("2 INDEX: i far below", Town.INDEX, x -> x.cries(3, 2, MIN, 2));
        fails("2 INDEX: one cell beyond", Town.INDEX, x -> x.cries(3, 2, 0, 13));
        fails("2 INDEX: one cell from the end", Town.INDEX, x -> x.cries(3, 2, 12, 1));
        fails("2 INDEX: i below, none taken", Town.INDEX, x -> x.cries(3, 2, -1, 0));
        fails("2 INDEX: i beyond, none taken", Town.INDEX, x -> x.cries(3, 2, 13, 0));
        fails("2 INDEX: n far", Town.INDEX, x -> x.cries(3, 2, 0, MAX));
        fails("2 INDEX: i and n wrap to -1", Town.INDEX, x -> x.cries(3, 2, MAX, MAX));
        fails("2 INDEX: i and n wrap to MIN", Town.INDEX, x -> x.cries(3, 2, 1, MAX));
        fails("2 INDEX ahead of the FIRST FAULT", Town.INDEX, x -> x.cries(0, 0, 0, 4));
    }

    /** It is no FAULT of the machine: fault() tells 0; the DAYS are made anew only by a TEXT that is taken. */
    private static void criesFirstFault() {
        refusedFaultless("2 no TEXT in the bytes", -100, x -> x.cries(0, 0, 0, 3));
        refusedFaultless("2 no TEXT in none", -100, x -> x.cries(3, 2, 12, 0));
        refusedFaultless("2 a TEXT that ends too soon", -103, x -> x.cries(3, 2, 0, 3));
        refusedFaultless("2 a TEXT that begins too soon", -100, x -> x.cries(3, 2, 2, 4));
    }

    private static void kind() {
        refusedBeyond(7, "3 WORD", UNKNOWN, (x, w) -> x.kind(w, 1));
        refusedBeyond(2, "3 kind", OUTSIDE, (x, kind) -> x.kind(3, kind));
        refusedBeyond(7, "3 WORD ahead of kind", UNKNOWN, (x, w) -> x.kind(w, 3));
    }

    private static void ofDay() {
        refusedBeyond(2, "4 DAY, how many", UNKNOWN, (x, day) -> x.ofDay(day, -1));
        refusedBeyond(2, "4 DAY, first", UNKNOWN, (x, day) -> x.ofDay(day, 0));
        refused("4 the CRY has no such", UNKNOWN, x -> x.ofDay(0, 2));
        refused("4 another CRY has it", UNKNOWN, x -> x.ofDay(2, 3));
        refused("4 k far", UNKNOWN, x -> x.ofDay(0, MAX));
        refused("4 k -2", UNKNOWN, x -> x.ofDay(0, -2));
        refused("4 k far below", UNKNOWN, x -> x.ofDay(0, MIN));
    }

    private static void refusedFull(String call, long want, Town.Call of) {
        Town.changesNothing(C, call, Town::full, of, want, Town.KEPT);
    }

    private static void add() {
        refusedBeyond(7, "5 WORD", UNKNOWN, (x, w) -> x.add(0, w));
        refusedBeyond(3, "5 place", UNKNOWN, (x, place) -> x.add(place, 0));
        refused("5 place of the DAY ahead", UNKNOWN, x -> x.add(5, 0));
        refusedFull("5 FULL at the first place", FULL, x -> x.add(0, 0));
        refusedFull("5 FULL between", FULL, x -> x.add(6, 7));
        refusedFull("5 FULL at the end", FULL, x -> x.add(12, 0));
        refusedFull("5 place 13 ahead of FULL", UNKNOWN, x -> x.add(13, 0));
        refusedFull("5 place -1 ahead of FULL", UNKNOWN, x -> x.add(-1, 0));
        refusedFull("5 WORD 8 ahead of FULL", UNKNOWN, x -> x.add(12, 8));
        refusedFull("5 WORD -1 ahead of FULL", UNKNOWN, x -> x.add(0, -1));
    }

    private interface OfTwo {
        long on(AddedCries x, int day, int other);
    }

    /** A call that takes two DAYS is refused for each of them alone and for both. */
    private static void refusedOfTwo(String call, long want, OfTwo of) {
        refusedBeyond(2, call + " DAY", want, (x, no) -> of.on(x, no, 0));
        refusedBeyond(2, call + " other DAY", want, (x, no) -> of.on(x, 2, no));
        refusedBeyond(2, call + " both DAYS", want, (x, no) -> of.on(x, no, no));
    }

    private static void within() {
        refusedOfTwo("6", UNKNOWN, (x, day, other) -> x.within(day, other));
    }

    private static void said() {
        refusedBeyond(2, "8 DAY", UNKNOWN, (x, day) -> x.said(day));
    }

    private static void putIn() {
        refusedBeyond(2, "9 DAY", UNKNOWN, (x, day) -> x.putIn(day, 0, true, -1));
        refusedBeyond(7, "9 WORD", UNKNOWN, (x, w) -> x.putIn(0, w, false, -1));
        refused("9 q -2", UNKNOWN, x -> x.putIn(0, 0, false, -2));
        refused("9 q 2", UNKNOWN, x -> x.putIn(0, 0, false, 2));
        refused("9 q far", UNKNOWN, x -> x.putIn(0, 0, true, MAX));
        refused("9 q far below", UNKNOWN, x -> x.putIn(0, 0, true, MIN));
        refused("9 STATE: a DENIAL", STATE, x -> x.putIn(0, 3, true, -1));
        refused("9 STATE: a DENIAL is not to be said", STATE, x -> x.putIn(0, 3, false, 0));
        refused("9 STATE: a DOUBT", STATE, x -> x.putIn(1, 4, true, 1));
        refusedBeyond(2, "9 DAY ahead of STATE", UNKNOWN, (x, day) -> x.putIn(day, 3, true, -1));
        refused("9 q -2 ahead of STATE", UNKNOWN, x -> x.putIn(0, 3, true, -2));
        refused("9 q 2 ahead of STATE", UNKNOWN, x -> x.putIn(0, 4, true, 2));
    }

    private static void ways() {
        refusedOfTwo("10", LOST, (x, day, other) -> x.ways(day, other));
    }

    private static void place() {
        refusedOfTwo("11 first", UNKNOWN, (x, day, other) -> x.place(day, other, 0, 0));
        refusedOfTwo("11 DAYS ahead of what", UNKNOWN, (x, day, other) -> x.place(day, other, 0, 2));
        refusedBeyond(1, "11 k", UNKNOWN, (x, k) -> x.place(0, 1, k, 0));
        refusedBeyond(1, "11 k ahead of what", UNKNOWN, (x, k) -> x.place(0, 1, k, -1));
        refused("11 k is of the first DAY's CRY", UNKNOWN, x -> x.place(0, 1, 4, 1));
        refused("11 k ahead of NONE", UNKNOWN, x -> x.place(1, 0, 5, 0));
        refusedBeyond(1, "11 what", OUTSIDE, (x, what) -> x.place(0, 1, 0, what));
        refusedBeyond(1, "11 what ahead of NONE", OUTSIDE, (x, what) -> x.place(1, 0, 0, what));
        refused("11 NONE", NONE, x -> x.place(1, 0, 0, 0));
        refused("11 NONE of the last", NONE, x -> x.place(1, 0, 4, 1));
    }

    private static void mayBe() {
        refusedBeyond(2, "12 place", UNKNOWN, (x, place) -> x.mayBe(place));
        refused("12 place of the DAY ahead", UNKNOWN, x -> x.mayBe(4));
    }

    private static void both() {
        refusedOfTwo("13 COMMON", UNKNOWN, (x, day, other) -> x.both(day, other, 0));
        refusedOfTwo("13 DAYS ahead of what", UNKNOWN, (x, day, other) -> x.both(day, other, -1));
        refusedBeyond(1, "13 what", OUTSIDE, (x, what) -> x.both(0, 1, what));
    }

    private static void shortest() {
        refusedOfTwo("14 HOW MANY", LOST, (x, day, other) -> x.shortest(day, other, -1));
        refusedOfTwo("14 the first", LOST, (x, day, other) -> x.shortest(day, other, 0));
        refused("14 q -2", LOST, x -> x.shortest(0, 1, -2));
        refused("14 q far below", LOST, x -> x.shortest(0, 1, MIN));
        refused("14 it has no such", LOST, x -> x.shortest(0, 2, 3));
        refused("14 q far", LOST, x -> x.shortest(0, 2, MAX));
    }

    private static void three() {
        refusedOfTwo("15 a, b", UNKNOWN, (x, day, other) -> x.three(day, other, 0));
        refusedOfTwo("15 b, c", UNKNOWN, (x, day, other) -> x.three(0, day, other));
        refusedOfTwo("15 a, c", UNKNOWN, (x, day, other) -> x.three(day, 0, other));
    }

    private static void lostDay() {
        refusedOfTwo("16", LOST, (x, day, other) -> x.lostDay(day, other, 3));
        refusedBeyond(12, "16 n", LOST, (x, n) -> x.lostDay(0, 1, n));
    }

    private static void roots() {
        refusedBeyond(2, "17 DAY", LOST, (x, day) -> x.roots(day, 1));
        refusedBeyond(12, "17 n", LOST, (x, n) -> x.roots(0, n));
    }

    private static void breaths() {
        refusedBeyond(2, "18 DAY", UNKNOWN, (x, day) -> x.breaths(day, 1));
        refusedBeyond(2, "18 DAY ahead of b", UNKNOWN, (x, day) -> x.breaths(day, 0));
        refusedBeyond(12, "18 b", OUTSIDE, (x, b) -> x.breaths(0, b));
        refused("18 b 0", OUTSIDE, x -> x.breaths(0, 0));
    }

    private static void once() {
        refusedOfTwo("19 how many", UNKNOWN, (x, day, other) -> x.once(day, other, 0));
        refusedOfTwo("19 DAYS ahead of what", UNKNOWN, (x, day, other) -> x.once(day, other, 2));
        refusedBeyond(1, "19 what", OUTSIDE, (x, what) -> x.once(0, 1, what));
    }

    private static void twice() {
        refusedBeyond(2, "20 DAY", UNKNOWN, (x, day) -> x.twice(day));
    }

    private static void sheet() {
        refusedFaultlessBeyond(3, "21 SHEET", UNKNOWN, (x, k) -> x.sheet(k, 0, 1));
        refusedFaultlessBeyond(3, "21 SHEET ahead of sort", UNKNOWN, (x, k) -> x.sheet(k, 3, 1));
        refusedFaultlessBeyond(3, "21 SHEET ahead of n above", UNKNOWN, (x, k) -> x.sheet(k, 0, 81));
        refusedFaultlessBeyond(3, "21 SHEET ahead of SIZE", UNKNOWN, (x, k) -> x.sheet(k, 0, -1));
        refusedFaultlessBeyond(2, "21 sort", OUTSIDE, (x, sort) -> x.sheet(0, sort, 1));
        refusedFaultlessBeyond(2, "21 sort ahead of SIZE", OUTSIDE, (x, sort) -> x.sheet(0, sort, -1));
        refusedFaultless("21 n 81", OUTSIDE, x -> x.sheet(0, 0, 81));
        refusedFaultless("21 n 81 for nothing", OUTSIDE, x -> x.sheet(2, 0, 81));
        refusedFaultless("21 n far", OUTSIDE, x -> x.sheet(0, 2, MAX));
        fails("21 SIZE", Town.SIZE, x -> x.sheet(0, 0, -1));
        fails("21 SIZE for nothing", Town.SIZE, x -> x.sheet(2, 1, -1));
        fails("21 SIZE far", Town.SIZE, x -> x.sheet(0, 2, MIN));
    }

    private static void lose() {
        refusedBeyond(3, "22 SHEET", UNKNOWN, (x, k) -> x.lose(k));
        refused("22 it had nothing", 0, x -> x.lose(2));
    }

    private static void put() {
        refusedFaultlessBeyond(3, "23 SHEET", UNKNOWN, (x, k) -> x.put(k, 0, 1));
        refusedFaultlessBeyond(3, "23 SHEET ahead of INDEX", UNKNOWN, (x, k) -> x.put(k, -1, 1));
        fails("23 NULL", Town.NULL, x -> x.put(2, 0, 1));
        fails("23 NULL ahead of INDEX", Town.NULL, x -> x.put(2, -1, 1));
        fails("23 INDEX: below", Town.INDEX, x -> x.put(0, -1, 1));
        fails("23 INDEX: beyond bytes", Town.INDEX, x -> x.put(0, 3, 1));
        fails("23 INDEX: beyond shorts", Town.INDEX, x -> x.put(1, 2, 1));
        fails("23 INDEX: far", Town.INDEX, x -> x.put(0, MAX, 1));
        fails("23 INDEX: far below", Town.INDEX, x -> x.put(0, MIN, 1));
    }

    private static void cell() {
        refusedFaultlessBeyond(3, "24 SHEET", LOST, (x, k) -> x.cell(k, 0, 0));
        refusedFaultlessBeyond(2, "24 sort", LOST, (x, sort) -> x.cell(0, 0, sort));
        refusedFaultlessBeyond(2, "24 sort ahead of NULL", LOST, (x, sort) -> x.cell(2, 0, sort));
        refusedFaultlessBeyond(2, "24 sort ahead of INDEX", LOST, (x, sort) -> x.cell(0, 3, sort));
        failsLost("24 CAST of bytes to shorts", Town.CAST, x -> x.cell(0, 0, 1));
        failsLost("24 CAST of shorts to ints", Town.CAST, x -> x.cell(1, 0, 2));
        failsLost("24 CAST of ints to bytes", Town.CAST, x -> x.cell(3, 0, 0));
        failsLost("24 CAST ahead of INDEX", Town.CAST, x -> x.cell(0, 3, 1));
        for (int sort = 0; sort < 3; sort++) {
            int any = sort;
            failsLost("24 nothing is no CAST to " + sort, Town.NULL, x -> x.cell(2, 0, any));
        }
        failsLost("24 NULL ahead of INDEX", Town.NULL, x -> x.cell(2, -1, 0));
        failsLost("24 INDEX: below", Town.INDEX, x -> x.cell(0, -1, 0));
        failsLost("24 INDEX: beyond", Town.INDEX, x -> x.cell(0, 3, 0));
        failsLost("24 INDEX: far", Town.INDEX, x -> x.cell(0, MAX, 0));
        failsLost("24 INDEX: far below", Town.INDEX, x -> x.cell(0, MIN, 0));
    }

    private static void copy() {
        refusedFaultlessBeyond(3, "25 SHEET", UNKNOWN, (x, k) -> x.copy(k, 0, 0, 0, 1));
        refusedFaultlessBeyond(3, "25 other SHEET", UNKNOWN, (x, k) -> x.copy(0, 0, k, 0, 1));
        refusedFaultlessBeyond(3, "25 both SHEETS", UNKNOWN, (x, k) -> x.copy(k, 0, k, 0, 1));
        refusedFaultlessBeyond(3, "25 SHEET ahead of NULL", UNKNOWN, (x, k) -> x.copy(k, 0, 2, 0, 1));
        refusedFaultlessBeyond(3, "25 other SHEET ahead of NULL", UNKNOWN, (x, k) -> x.copy(2, 0, k, 0, 1));
        refusedFaultlessBeyond(3, "25 SHEET ahead of INDEX", UNKNOWN, (x, k) -> x.copy(0, -1, k, -1, -1));
    }

    private static void copyFaults() {
        fails("25 NULL: the first", Town.NULL, x -> x.copy(2, 0, 0, 0, 1));
        fails("25 NULL: the other", Town.NULL, x -> x.copy(0, 0, 2, 0, 1));
        fails("25 NULL: both, none taken", Town.NULL, x -> x.copy(2, 0, 2, 0, 0));
        fails("25 NULL ahead of CAST", Town.NULL, x -> x.copy(1, 0, 2, 0, 1));
        fails("25 NULL ahead of INDEX", Town.NULL, x -> x.copy(2, -1, 0, -1, -1));
        fails("25 CAST", Town.CAST, x -> x.copy(0, 0, 1, 0, 1));
        fails("25 CAST to a broader SORT", Town.CAST, x -> x.copy(1, 0, 3, 0, 1));
        fails("25 CAST, none taken", Town.CAST, x -> x.copy(0, 0, 3, 0, 0));
        fails("25 CAST ahead of INDEX", Town.CAST, x -> x.copy(0, -1, 1, -1, -1));
        fails("25 INDEX: i below", Town.INDEX, x -> x.copy(0, -1, 0, 0, 1));
        fails("25 INDEX: j below", Town.INDEX, x -> x.copy(0, 0, 0, -1, 1));
        fails("25 INDEX: n below", Town.INDEX, x -> x.copy(0, 1, 0, 0, -1));
        fails("25 INDEX: n far below", Town.INDEX, x -> x.copy(0, 1, 0, 0, MIN));
        fails("25 INDEX: i beyond by one", Town.INDEX, x -> x.copy(0, 1, 0, 0, 3));
        fails("25 INDEX: j beyond by one", Town.INDEX, x -> x.copy(0, 0, 0, 1, 3));
        Town.changesNothing(C, "25 INDEX: the other is shorter", RefusalsTest::ofBytes, x -> x.copy(0, 0, 1, 0, 3), -13, Town.INDEX);
        Town.changesNothing(C, "25 INDEX: the first is shorter", RefusalsTest::ofBytes, x -> x.copy(1, 0, 0, 0, 3), -13, Town.INDEX);
        fails("25 INDEX: i below, none taken", Town.INDEX, x -> x.copy(0, -1, 0, 0, 0));
        fails("25 INDEX: j below, none taken", Town.INDEX, x -> x.copy(0, 0, 0, -1, 0));
        fails("25 INDEX: i beyond, none taken", Town.INDEX, x -> x.copy(0, 4, 0, 0, 0));
        fails("25 INDEX: j beyond, none taken", Town.INDEX, x -> x.copy(0, 0, 0, 4, 0));
        fails("25 INDEX: i and n wrap", Town.INDEX, x -> x.copy(0, 1, 0, 0, MAX));
        fails("25 INDEX: j and n wrap", Town.INDEX, x -> x.copy(0, 0, 0, 1, MAX));
        fails("25 INDEX: i far, none taken", Town.INDEX, x -> x.copy(0, MAX, 0, 0, 0));
        fails("25 INDEX: j far below", Town.INDEX, x -> x.copy(0, 0, 0, MIN, 1));
    }

    /** SHEETS 0 and 1 of one SORT, with three and two cells. */
    private static AddedCries ofBytes() {
        AddedCries x = Town.some();
        Town.fill(x, 1, 0, 8, 9);
        return x;
    }

    private static void tellAndSing() {
        refusedBeyond(7, "26 WORD", UNKNOWN, (x, w) -> x.tell(w));
        refusedBeyond(7, "27 WORD", UNKNOWN, (x, w) -> x.sing(w));
    }

    private static void as() {
        refusedFaultlessBeyond(7, "28 WORD", UNKNOWN, (x, w) -> x.as(w, 0));
        refusedFaultlessBeyond(7, "28 WORD ahead of kind", UNKNOWN, (x, w) -> x.as(w, 3));
        refusedFaultlessBeyond(2, "28 kind of a DOUBT", OUTSIDE, (x, kind) -> x.as(4, kind));
        refusedFaultlessBeyond(2, "28 kind ahead of CAST", OUTSIDE, (x, kind) -> x.as(0, kind));
        fails("28 CAST: a WORD is no DENIAL", Town.CAST, x -> x.as(0, 1));
        fails("28 CAST: a WORD is no DOUBT", Town.CAST, x -> x.as(0, 2));
        fails("28 CAST: a DENIAL is no DOUBT", Town.CAST, x -> x.as(3, 2));
    }

    private static void refusedEmpty(String call, long want, Town.Call of) {
        Town.changesNothing(C, call + " without DAYS", Town::empty, of, want, Town.KEPT);
    }

    private static void withoutDays() {
        refusedEmpty("4", UNKNOWN, x -> x.ofDay(0, -1));
        refusedEmpty("5 STATE at place 0", STATE, x -> x.add(0, 0));
        refusedEmpty("5 STATE at any place", STATE, x -> x.add(13, 7));
        refusedEmpty("5 STATE at a far place", STATE, x -> x.add(MAX, 0));
        refusedEmpty("5 place -1 ahead of STATE", UNKNOWN, x -> x.add(-1, 0));
        refusedEmpty("5 place far below ahead of STATE", UNKNOWN, x -> x.add(MIN, 0));
        refusedEmpty("5 WORD 8 ahead of STATE", UNKNOWN, x -> x.add(0, 8));
        refusedEmpty("5 WORD -1 ahead of STATE", UNKNOWN, x -> x.add(0, -1));
        refusedEmpty("6", UNKNOWN, x -> x.within(0, 0));
        refusedEmpty("7", NONE, x -> x.leftOut());
        refusedEmpty("8", UNKNOWN, x -> x.said(0));
        refusedEmpty("9", UNKNOWN, x -> x.putIn(0, 0, false, -1));
        refusedEmpty("10", LOST, x -> x.ways(0, 0));
        refusedEmpty("11", UNKNOWN, x -> x.place(0, 0, 0, 0));
        refusedEmpty("12", UNKNOWN, x -> x.mayBe(0));
        refusedEmpty("12 place -1", UNKNOWN, x -> x.mayBe(-1));
        refusedEmpty("13", UNKNOWN, x -> x.both(0, 0, 0));
        refusedEmpty("14", LOST, x -> x.shortest(0, 0, -1));
        refusedEmpty("15", UNKNOWN, x -> x.three(0, 0, 0));
        refusedEmpty("16", LOST, x -> x.lostDay(0, 0, 0));
        refusedEmpty("17", LOST, x -> x.roots(0, 0));
        refusedEmpty("18", UNKNOWN, x -> x.breaths(0, 1));
        refusedEmpty("19", UNKNOWN, x -> x.once(0, 0, 0));
        refusedEmpty("20", UNKNOWN, x -> x.twice(0));
        refusedEmpty("31", 0, x -> x.many());
    }

    /** Calls that only ask are answered and change nothing: no WORD that is put in to find out stays. */
    private static void askingChangesNothing() {
        refused("4 asked", 3, x -> x.ofDay(2, -1));
        refused("6 asked", 1, x -> x.within(0, 1));
        refused("7 asked", 2, x -> x.leftOut());
        refused("8 asked", 1, x -> x.said(1));
        refused("9 asked", 1, x -> x.putIn(0, 0, false, -1));
        refused("10 asked", 1, x -> x.ways(0, 1));
        refused("11 asked", 2, x -> x.place(0, 1, 1, 1));
        refused("12 asked", 4, x -> x.mayBe(0));
        refused("13 asked", 6, x -> x.both(1, 2, 1));
        refused("14 asked", 2, x -> x.shortest(0, 2, 0));
        refused("15 asked", 6, x -> x.three(0, 1, 2));
        refused("16 asked", 3, x -> x.lostDay(0, 1, 3));
        refused("17 asked", 5, x -> x.roots(1, 1));
        refused("18 asked", 2, x -> x.breaths(1, 3));
        refused("19 asked", 2, x -> x.once(0, 2, 0));
        refused("20 asked", 0, x -> x.twice(1));
        refusedFaultless("24 asked", 6, x -> x.cell(0, 1, 0));
        refusedFaultless("25 none taken", 0, x -> x.copy(0, 3, 0, 3, 0));
        refusedFaultless("28 asked", 1, x -> x.as(4, 1));
        refused("29 asked", 4, x -> x.trace());
        refused("31 asked", 3, x -> x.many());
    }
}
