/**
 * Long runs of calls on AddedCries and on PlainCries, with ordinary, edge and wrong arguments;
 * each answer, and what fault(), trace() and many() tell after it, must be the same.
 * The runs are drawn by a fixed rule, so they are the same each time.
 */
public final class AgainstPlainTest {
    private static final int RUNS = 1500;
    /** A TEXT takes up to 90 calls and the DAYS at the end 105: so no object comes to its 513th call. */
    private static final int LATEST_BEGIN = 310;
    private static final int[] ODD = {-1, -2, 2, 3, 4, 5, 6, 7, 8, 12, 13, 80, 81, Integer.MAX_VALUE, Integer.MIN_VALUE,
        Integer.MAX_VALUE - 1, Integer.MIN_VALUE + 1, 65536, -100};

    private final Check check;
    private final AddedCries x = new AddedCries();
    private final PlainCries plain = new PlainCries();
    private final int run;
    private final int letters;
    private final int odd;
    private long seed;
    private int calls = 0;

    private AgainstPlainTest(Check check, int run) {
        this.check = check;
        this.run = run;
        this.seed = run * 7919L + 17;
        this.letters = 1 + draw(8);
        this.odd = 4 + draw(30);
    }

    public static void main(String[] args) {
        Check check = new Check();
        for (int run = 0; run < RUNS && check.wrong() == 0; run++) {
            new AgainstPlainTest(check, run).go();
        }
        check.end();
    }

    private int draw(int many) {
        seed = seed * 6364136223846793005L + 1442695040888963407L;
        return (int) ((seed >>> 33) % many);
    }

    /** A number of from .. to, and now and then one that is none of them. */
    private int number(int from, int to) {
        if (draw(odd) == 0) {
            return draw(3) == 0 ? ODD[draw(ODD.length)] : draw(2) == 0 ? from - 1 : to + 1;
        }
        return from + draw(to - from + 1);
    }

    private int day() {
        return number(0, Math.max(0, plain.many() - 1));
    }

    private void due(String call, long got, long want) {
        calls += 4;
        String where = "run " + run + " call " + calls + ": ";
        check.due(where + call, got, want);
        check.due(where + "fault() after " + call, x.fault(), plain.fault());
        check.due(where + "trace() after " + call, x.trace(), plain.trace());
        check.due(where + "many() after " + call, x.many(), plain.many());
    }

    private void go() {
        if (draw(8) != 0) {
            takeText();
        }
        while (calls < LATEST_BEGIN) {
            call();
        }
        compareDays();
    }

    private void compareDays() {
        for (int d = -1; d < 7; d++) {
            for (int k = -1; k < 13; k++) {
                check.due("run " + run + " after call " + calls + ": ofDay(" + d + ", " + k + ")",
                    x.ofDay(d, k), plain.ofDay(d, k));
            }
        }
    }

    private void call() {
        int which = draw(40);
        if (which < 6) {
            cries(which);
        } else if (which < 22) {
            rows(which);
        } else {
            sheets(which);
        }
    }

    private void cries(int which) {
        if (which == 0) {
            takeText();
        } else if (which == 1) {
            int w = number(0, 7), kind = number(0, 2);
            due("kind(" + w + ", " + kind + ")", x.kind(w, kind), plain.kind(w, kind));
        } else if (which == 2) {
            int p = number(0, 12), w = number(0, letters - 1);
            due("add(" + p + ", " + w + ")", x.add(p, w), plain.add(p, w));
        } else if (which == 3) {
            int d = day(), k = number(-1, 12);
            due("ofDay(" + d + ", " + k + ")", x.ofDay(d, k), plain.ofDay(d, k));
        } else if (which == 4) {
            due("leftOut()", x.leftOut(), plain.leftOut());
        } else {
            int k = number(0, 3), sort = number(0, 2), i = number(0, 8), n = number(0, 20);
            due("cries(" + k + ", " + sort + ", " + i + ", " + n + ")", x.cries(k, sort, i, n), plain.cries(k, sort, i, n));
        }
    }

    private void rows(int which) {
        int d = day(), o = day(), what = number(0, 1);
        String two = "(" + d + ", " + o;
        switch (which) {
            case 6 -> due("within" + two + ")", x.within(d, o), plain.within(d, o));
            case 7 -> due("said(" + d + ")", x.said(d), plain.said(d));
            case 8, 9, 10 -> {
                int w = number(0, 7), q = number(-1, 1);
                boolean want = draw(2) == 0;
                due("putIn(" + d + ", " + w + ", " + want + ", " + q + ")", x.putIn(d, w, want, q), plain.putIn(d, w, want, q));
            }
            case 11 -> due("ways" + two + ")", x.ways(d, o), plain.ways(d, o));
            case 12 -> {
                int k = number(0, 5);
                due("place" + two + ", " + k + ", " + what + ")", x.place(d, o, k, what), plain.place(d, o, k, what));
            }
            case 13 -> {
                int p = number(0, 11);
                due("mayBe(" + p + ")", x.mayBe(p), plain.mayBe(p));
            }
            case 14 -> due("both" + two + ", " + what + ")", x.both(d, o, what), plain.both(d, o, what));
            case 15 -> {
                int q = number(-1, 14);
                due("shortest" + two + ", " + q + ")", x.shortest(d, o, q), plain.shortest(d, o, q));
            }
            case 16 -> {
                int c = day();
                due("three" + two + ", " + c + ")", x.three(d, o, c), plain.three(d, o, c));
            }
            case 17 -> {
                int n = number(0, 12);
                due("lostDay" + two + ", " + n + ")", x.lostDay(d, o, n), plain.lostDay(d, o, n));
            }
            case 18 -> {
                int n = number(0, 12);
                due("roots(" + d + ", " + n + ")", x.roots(d, n), plain.roots(d, n));
            }
            case 19 -> {
                int b = number(1, 12);
                due("breaths(" + d + ", " + b + ")", x.breaths(d, b), plain.breaths(d, b));
            }
            case 20 -> due("once" + two + ", " + what + ")", x.once(d, o, what), plain.once(d, o, what));
            default -> due("twice(" + d + ")", x.twice(d), plain.twice(d));
        }
    }

    private void sheets(int which) {
        int k = number(0, 3), i = number(0, 9), sort = number(0, 2), w = number(0, 7);
        switch (which) {
            case 22, 23, 24 -> due("sheet(" + k + ", " + sort + ", " + i + ")", x.sheet(k, sort, i), plain.sheet(k, sort, i));
            case 25 -> due("lose(" + k + ")", x.lose(k), plain.lose(k));
            case 26, 27, 28, 29 -> {
                int v = draw(2) == 0 ? 97 + draw(8) : draw(2) == 0 ? 59 : (int) seed;
                due("put(" + k + ", " + i + ", " + v + ")", x.put(k, i, v), plain.put(k, i, v));
            }
            case 30, 31, 32 -> due("cell(" + k + ", " + i + ", " + sort + ")", x.cell(k, i, sort), plain.cell(k, i, sort));
            case 33, 34, 35 -> {
                int other = number(0, 3), j = number(0, 6), n = number(0, 6);
                due("copy(" + k + ", " + i + ", " + other + ", " + j + ", " + n + ")",
                    x.copy(k, i, other, j, n), plain.copy(k, i, other, j, n));
            }
            case 36, 37 -> due("tell(" + w + ")", x.tell(w), plain.tell(w));
            case 38 -> due("sing(" + w + ")", x.sing(w), plain.sing(w));
            default -> due("as(" + w + ", " + sort + ")", x.as(w, sort), plain.as(w, sort));
        }
    }

    /** DAYS that mostly grow, as the crier's do; at times with a sign that no TEXT has. */
    private void takeText() {
        StringBuilder text = new StringBuilder();
        String cry = "";
        int days = 1 + draw(draw(12) == 0 ? 7 : 6);
        for (int d = 0; d < days; d++) {
            if (d > 0) {
                text.append(';');
            }
            cry = draw(3) == 0 ? "" : cry;
            int more = draw(draw(10) == 0 ? 8 : 4) + (cry.isEmpty() ? 1 : 0);
            for (int m = 0; m < more; m++) {
                int p = draw(cry.length() + 1);
                cry = cry.substring(0, p) + (char) ('a' + draw(letters)) + cry.substring(p);
            }
            text.append(cry);
        }
        if (draw(10) == 0) {
            text.setCharAt(draw(text.length()), (char) (draw(2) == 0 ? 59 : 60 + draw(50)));
        }
        takeText(text.substring(0, Math.min(80, text.length())));
    }

    private void takeText(String text) {
        int k = draw(4);
        int sort = draw(3);
        due("sheet", x.sheet(k, sort, text.length()), plain.sheet(k, sort, text.length()));
        for (int p = 0; p < text.length(); p++) {
            x.put(k, p, text.charAt(p));
            plain.put(k, p, text.charAt(p));
            calls++;
        }
        due("cries of " + text, x.cries(k, sort, 0, text.length()), plain.cries(k, sort, 0, text.length()));
    }
}
