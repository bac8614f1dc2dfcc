import java.util.Arrays;

/**
 * Each call with all combinations of numbers at its bounds, just beyond them and far off, compared with PlainCries:
 * so whatever is wrong together, the first refusal or FAULT in the document's order is told, and no call throws.
 */
public final class CornersTest {
    private static final int MIN = Integer.MIN_VALUE, MAX = Integer.MAX_VALUE;
    private static final int[] DAY = {MIN, -1, 0, 1, 2, 5, 6, MAX};
    private static final int[] WORD = {MIN, -1, 0, 3, 4, 7, 8, 32, MAX};
    private static final int[] KIND = {MIN, -1, 0, 1, 2, 3, MAX};
    private static final int[] PLACE = {MIN, -2, -1, 0, 1, 2, 11, 12, 13, MAX};
    private static final int[] LONG_PLACE = {MIN, -2, -1, 0, 1, 11, 12, 13, 14, 23, 24, 25, MAX};
    private static final int[] WHAT = {MIN, -1, 0, 1, 2, MAX};
    private static final int[] SHEET = {MIN, -1, 0, 1, 2, 3, 4, MAX};
    private static final int[] CELL = {MIN, -1, 0, 1, 2, 78, 80, 81, MAX};
    private static final int[] VALUE = {MIN, -129, 97, 128, 32768, MAX};
    /** With the calls that make an object and those that compare it, far below its 512. */
    private static final int CALLS_OF_AN_OBJECT = 60;

    private interface OfClass {
        long on(AddedCries x, int[] n);
    }

    private interface OfPlain {
        long on(PlainCries x, int[] n);
    }

    private final Check check;
    private final String text;
    private AddedCries x;
    private PlainCries plain;
    private int calls;

    private CornersTest(Check check, String text) {
        this.check = check;
        this.text = text;
        anew();
    }

    public static void main(String[] args) {
        Check check = new Check();
        String[] texts = {"", "a", "ab;adbec;cab", "a;abcdefghabcd;ea;dba;bacab;abdcebacabda"};
        for (String text : texts) {
            CornersTest corners = new CornersTest(check, text);
            corners.asking();
            corners.askingOfTwo();
            corners.changing();
        }
        check.end();
    }

    /** DAYS by the TEXT, d a DENIAL, e a DOUBT; SHEET 0 has 80 bytes, 1 two, 2 nothing, 3 ints with the TEXT and one more. */
    private void anew() {
        x = new AddedCries();
        plain = new PlainCries();
        calls = 0;
        x.sheet(3, 2, text.length() + 1);
        plain.sheet(3, 2, text.length() + 1);
        for (int i = 0; i < text.length(); i++) {
            x.put(3, i, text.charAt(i));
            plain.put(3, i, text.charAt(i));
        }
        check.due("cries of " + text, x.cries(3, 2, 0, text.length()), plain.cries(3, 2, 0, text.length()));
        x.kind(3, 1);
        plain.kind(3, 1);
        x.kind(4, 2);
        plain.kind(4, 2);
        for (int k = 0; k < 2; k++) {
            x.sheet(k, 0, 80 - 78 * k);
            plain.sheet(k, 0, 80 - 78 * k);
            x.put(k, 1, 97 + k);
            plain.put(k, 1, 97 + k);
        }
    }

    private void asks(String name, OfClass ofClass, OfPlain ofPlain, int[]... numbers) {
        sweep(name, ofClass, ofPlain, false, numbers);
    }

    private void changes(String name, OfClass ofClass, OfPlain ofPlain, int[]... numbers) {
        sweep(name, ofClass, ofPlain, true, numbers);
    }

    private void sweep(String name, OfClass ofClass, OfPlain ofPlain, boolean changes, int[]... numbers) {
        int combinations = 1;
        for (int[] each : numbers) {
            combinations *= each.length;
        }
        int[] n = new int[numbers.length];
        for (int c = 0; c < combinations; c++) {
            int rest = c;
            for (int p = 0; p < n.length; p++) {
                n[p] = numbers[p][rest % numbers[p].length];
                rest /= numbers[p].length;
            }
            compare(name, ofClass, ofPlain, n);
            if (changes) {
                compareAll(name, n);
            }
            if (changes || calls >= CALLS_OF_AN_OBJECT) {
                anew();
            }
        }
    }

    private void compare(String name, OfClass ofClass, OfPlain ofPlain, int[] n) {
        calls++;
        due(name, n, "", ofClass.on(x, n), ofPlain.on(plain, n));
        due(name, n, ": fault()", x.fault(), plain.fault());
        due(name, n, ": trace()", x.trace(), plain.trace());
    }

    private void due(String name, int[] n, String what, long got, long want) {
        if (got != want) {
            check.due(name + Arrays.toString(n) + " with DAYS " + text + what, got, want);
        } else {
            check.due(name, got, want);
        }
    }

    private void compareAll(String name, int[] n) {
        due(name, n, ": many()", x.many(), plain.many());
        for (int d = 0; d < plain.many(); d++) {
            for (int k = -1; k < plain.ofDay(d, -1); k++) {
                due(name, n, ": ofDay()", x.ofDay(d, k), plain.ofDay(d, k));
            }
        }
        for (int w = 0; w < 8; w++) {
            due(name, n, ": kind()", x.kind(w, 0), plain.kind(w, 0));
        }
        int[] cells = {0, 1, 79};
        for (int k = 0; k < 4; k++) {
            for (int sort = 0; sort < 3; sort++) {
                for (int i : cells) {
                    due(name, n, ": cell()", x.cell(k, i, sort), plain.cell(k, i, sort));
                    due(name, n, ": fault() of cell()", x.fault(), plain.fault());
                }
            }
        }
    }

    private void asking() {
        asks("ofDay", (c, n) -> c.ofDay(n[0], n[1]), (p, n) -> p.ofDay(n[0], n[1]), DAY, PLACE);
        asks("leftOut", (c, n) -> c.leftOut(), (p, n) -> p.leftOut());
        asks("said", (c, n) -> c.said(n[0]), (p, n) -> p.said(n[0]), DAY);
        asks("putIn", (c, n) -> c.putIn(n[0], n[1], n[2] > 0, n[3]), (p, n) -> p.putIn(n[0], n[1], n[2] > 0, n[3]),
            DAY, WORD, new int[] {0, 1}, PLACE);
        asks("mayBe", (c, n) -> c.mayBe(n[0]), (p, n) -> p.mayBe(n[0]), PLACE);
        asks("roots", (c, n) -> c.roots(n[0], n[1]), (p, n) -> p.roots(n[0], n[1]), DAY, PLACE);
        asks("breaths", (c, n) -> c.breaths(n[0], n[1]), (p, n) -> p.breaths(n[0], n[1]), DAY, PLACE);
        asks("twice", (c, n) -> c.twice(n[0]), (p, n) -> p.twice(n[0]), DAY);
        asks("cell", (c, n) -> c.cell(n[0], n[1], n[2]), (p, n) -> p.cell(n[0], n[1], n[2]), SHEET, CELL, KIND);
        asks("tell", (c, n) -> c.tell(n[0]), (p, n) -> p.tell(n[0]), WORD);
        asks("sing", (c, n) -> c.sing(n[0]), (p, n) -> p.sing(n[0]), WORD);
        asks("as", (c, n) -> c.as(n[0], n[1]), (p, n) -> p.as(n[0], n[1]), WORD, KIND);
        asks("many", (c, n) -> c.many(), (p, n) -> p.many());
    }

    private void askingOfTwo() {
        asks("within", (c, n) -> c.within(n[0], n[1]), (p, n) -> p.within(n[0], n[1]), DAY, DAY);
        asks("ways", (c, n) -> c.ways(n[0], n[1]), (p, n) -> p.ways(n[0], n[1]), DAY, DAY);
        asks("place", (c, n) -> c.place(n[0], n[1], n[2], n[3]), (p, n) -> p.place(n[0], n[1], n[2], n[3]), DAY, DAY, PLACE, WHAT);
        asks("both", (c, n) -> c.both(n[0], n[1], n[2]), (p, n) -> p.both(n[0], n[1], n[2]), DAY, DAY, WHAT);
        asks("shortest", (c, n) -> c.shortest(n[0], n[1], n[2]), (p, n) -> p.shortest(n[0], n[1], n[2]), DAY, DAY, LONG_PLACE);
        asks("three", (c, n) -> c.three(n[0], n[1], n[2]), (p, n) -> p.three(n[0], n[1], n[2]), DAY, DAY, DAY);
        asks("lostDay", (c, n) -> c.lostDay(n[0], n[1], n[2]), (p, n) -> p.lostDay(n[0], n[1], n[2]), DAY, DAY, PLACE);
        asks("once", (c, n) -> c.once(n[0], n[1], n[2]), (p, n) -> p.once(n[0], n[1], n[2]), DAY, DAY, WHAT);
    }

    private void changing() {
        int[] codes = {MIN, -1, 0, 1, text.length() - 1, text.length(), text.length() + 1, text.length() + 2, MAX};
        changes("cries", (c, n) -> c.cries(n[0], n[1], n[2], n[3]), (p, n) -> p.cries(n[0], n[1], n[2], n[3]), SHEET, KIND, codes, codes);
        changes("kind", (c, n) -> c.kind(n[0], n[1]), (p, n) -> p.kind(n[0], n[1]), WORD, KIND);
        changes("add", (c, n) -> c.add(n[0], n[1]), (p, n) -> p.add(n[0], n[1]), PLACE, WORD);
        changes("sheet", (c, n) -> c.sheet(n[0], n[1], n[2]), (p, n) -> p.sheet(n[0], n[1], n[2]), SHEET, KIND, CELL);
        changes("lose", (c, n) -> c.lose(n[0]), (p, n) -> p.lose(n[0]), SHEET);
        changes("put", (c, n) -> c.put(n[0], n[1], n[2]), (p, n) -> p.put(n[0], n[1], n[2]), SHEET, CELL, VALUE);
        changes("copy", (c, n) -> c.copy(n[0], n[1], n[2], n[3], n[4]), (p, n) -> p.copy(n[0], n[1], n[2], n[3], n[4]),
            SHEET, CELL, SHEET, CELL, CELL);
    }
}
