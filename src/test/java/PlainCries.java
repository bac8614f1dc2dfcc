import java.util.ArrayDeque;
import java.util.ArrayList;
import java.util.Arrays;
import java.util.HashMap;
import java.util.HashSet;
import java.util.List;
import java.util.Map;
import java.util.Set;

/**
 * The document once more, written to be plain and to share no thought with AddedCries:
 * CRIES are texts of letters, and what can be tried out is tried out.
 */
final class PlainCries {
    private static final int UNKNOWN = -1, OUTSIDE = -2, STATE = -3, FULL = -4, NONE = -9;
    private static final long LOST = Long.MIN_VALUE;
    private static final String LETTERS = "abcdefgh";
    private static final int[] NULL_ROW = null;

    private List<String> days = new ArrayList<>();
    private final int[] kinds = new int[8];
    private final int[][] rows = {NULL_ROW, NULL_ROW, NULL_ROW, NULL_ROW};
    private final int[] sorts = new int[4];
    private int trace = 0;
    private int fault = 0;

    private boolean noDay(int... numbers) {
        return Arrays.stream(numbers).anyMatch(d -> d < 0 || d >= days.size());
    }

    private static boolean no(int number, int many) {
        return number < 0 || number >= many;
    }

    private int fail(int which) {
        fault = which;
        return -10 - which;
    }

    int cries(int sheet, int sort, int i, int n) {
        fault = 0;
        if (no(sheet, 4)) return UNKNOWN;
        if (no(sort, 3)) return OUTSIDE;
        int[] row = rows[sheet];
        if (row != null && sorts[sheet] != sort) return fail(2);
        if (row == null) return fail(1);
        if (n < 0) return fail(4);
        if (i < 0 || i > row.length || n > row.length - i) return fail(3);
        StringBuilder text = new StringBuilder();
        for (int p = i; p < i + n; p++) {
            text.append(row[p] == 59 || row[p] >= 97 && row[p] <= 104 ? (char) row[p] : '?');
        }
        if (text.toString().matches("[a-h]{1,12}(;[a-h]{1,12}){0,5}")) {
            days = new ArrayList<>(List.of(text.toString().split(";")));
            return days.size();
        }
        for (int p = 1; p <= n; p++) {
            if (!canGoOn(text.substring(0, p))) return -100 - (p - 1);
        }
        return -100 - n;
    }

    /** All that a TEXT can begin with. */
    private static boolean canGoOn(String begun) {
        return begun.matches("([a-h]{1,12};){0,5}[a-h]{0,12}");
    }

    int kind(int w, int kind) {
        if (no(w, 8)) return UNKNOWN;
        if (no(kind, 3)) return OUTSIDE;
        int was = kinds[w];
        kinds[w] = kind;
        return was;
    }

    int ofDay(int day, int k) {
        if (noDay(day) || k < -1 || k >= days.get(day).length()) return UNKNOWN;
        return k == -1 ? days.get(day).length() : days.get(day).charAt(k) - 'a';
    }

    int add(int place, int w) {
        if (no(w, 8) || place < 0) return UNKNOWN;
        if (days.isEmpty()) return STATE;
        String cry = days.get(days.size() - 1);
        if (place > cry.length()) return UNKNOWN;
        if (cry.length() == 12) return FULL;
        days.set(days.size() - 1, cry.substring(0, place) + LETTERS.charAt(w) + cry.substring(place));
        return cry.length() + 1;
    }

    private static boolean isWithin(String inner, String outer) {
        return outer.matches(".*" + inner.replaceAll("(.)", "$1.*"));
    }

    int within(int day, int other) {
        if (noDay(day, other)) return UNKNOWN;
        return isWithin(days.get(day), days.get(other)) ? 1 : 0;
    }

    int leftOut() {
        for (int d = 1; d < days.size(); d++) {
            if (!isWithin(days.get(d - 1), days.get(d))) return d;
        }
        return NONE;
    }

    private Set<Character> saidBy(String cry) {
        Set<Character> said = new HashSet<>();
        boolean denied = false;
        Character latest = null;
        for (char word : cry.toCharArray()) {
            int kind = kinds[word - 'a'];
            if (kind == 0) {
                if (denied) said.remove(word);
                else said.add(word);
                denied = false;
                latest = word;
            } else {
                denied = !denied;
                if (kind == 2) said.remove(latest);
            }
        }
        return said;
    }

    int said(int day) {
        if (noDay(day)) return UNKNOWN;
        return saidBy(days.get(day)).stream().mapToInt(word -> 1 << (word - 'a')).sum();
    }

    int putIn(int day, int w, boolean want, int q) {
        if (noDay(day) || no(w, 8) || q < -1 || q > 1) return UNKNOWN;
        if (kinds[w] != 0) return STATE;
        int[] row = putInRow(days.get(day), LETTERS.charAt(w), want);
        if (row == null) return NONE;
        if (q == -1) return row.length;
        return q < row.length ? row[q] : NONE;
    }

    private int[] putInRow(String cry, char word, boolean want) {
        if (saidBy(cry).contains(word) == want) return new int[0];
        for (int one = 0; one < 10 * (cry.length() + 1); one++) {
            if (one % 10 < 8 && saidBy(with(cry, one)).contains(word) == want) return new int[] {one};
        }
        for (int one = 0; one < 10 * (cry.length() + 1); one++) {
            for (int two = one - one % 10; two < 10 * (cry.length() + 1); two++) {
                if (one % 10 > 7 || two % 10 > 7) continue;
                // The second one goes in behind the first one, which has made all places one more.
                String put = with(with(cry, one), two + 10);
                if (saidBy(put).contains(word) == want) return new int[] {one, two};
            }
        }
        return null;
    }

    private static String with(String cry, int number) {
        int place = number / 10;
        return cry.substring(0, place) + LETTERS.charAt(number % 10) + cry.substring(place);
    }

    /** Each choice of places in the outer CRY, as bits, that makes the inner one. */
    private static List<Integer> choices(String inner, String outer) {
        List<Integer> found = new ArrayList<>();
        for (int bits = 0; bits < 1 << outer.length(); bits++) {
            if (Integer.bitCount(bits) == inner.length() && chosen(outer, bits).equals(inner)) found.add(bits);
        }
        return found;
    }

    private static String chosen(String outer, int bits) {
        StringBuilder row = new StringBuilder();
        for (int p = 0; p < outer.length(); p++) {
            if ((bits >> p & 1) != 0) row.append(outer.charAt(p));
        }
        return row.toString();
    }

    long ways(int day, int other) {
        return noDay(day, other) ? LOST : choices(days.get(day), days.get(other)).size();
    }

    int place(int day, int other, int k, int what) {
        if (noDay(day, other) || no(k, days.get(day).length())) return UNKNOWN;
        if (no(what, 2)) return OUTSIDE;
        int best = NONE;
        for (int bits : choices(days.get(day), days.get(other))) {
            int rest = bits;
            for (int c = 0; c < k; c++) rest &= rest - 1;
            int place = Integer.numberOfTrailingZeros(rest);
            if (best == NONE || (what == 0 ? place < best : place > best)) best = place;
        }
        return best;
    }

    int mayBe(int place) {
        if (days.isEmpty() || no(place, days.get(days.size() - 1).length())) return UNKNOWN;
        int set = 0;
        for (int d = 0; d < days.size(); d++) {
            for (int bits : choices(days.get(d), days.get(days.size() - 1))) {
                if ((bits >> place & 1) != 0) set |= 1 << d;
            }
        }
        return set;
    }

    private final Map<String, Set<String>> parts = new HashMap<>();

    /** All CRIES that are WITHIN one, that of no WORDS too. */
    private Set<String> allWithin(String cry) {
        return parts.computeIfAbsent(cry, outer -> {
            Set<String> found = new HashSet<>();
            for (int bits = 0; bits < 1 << outer.length(); bits++) found.add(chosen(outer, bits));
            return found;
        });
    }

    int both(int day, int other, int what) {
        if (noDay(day, other)) return UNKNOWN;
        if (no(what, 2)) return OUTSIDE;
        if (what == 1) return shortestOf(days.get(day), days.get(other)).length();
        Set<String> shared = new HashSet<>(allWithin(days.get(day)));
        shared.retainAll(allWithin(days.get(other)));
        return shared.stream().mapToInt(String::length).max().orElse(0);
    }

    private static String after(String rest, char word) {
        return !rest.isEmpty() && rest.charAt(0) == word ? rest.substring(1) : rest;
    }

    private static List<String> after(List<String> rests, char word) {
        List<String> next = new ArrayList<>();
        for (String rest : rests) next.add(after(rest, word));
        return next;
    }

    private final Map<List<String>, Map<List<String>, Integer>> searches = new HashMap<>();

    /**
     * From what is left of some CRIES, WORD by WORD, level by level: how many steps each rest is away.
     * A step is any WORD of the eight, so no thought on which one is wise goes in.
     */
    private Map<List<String>, Integer> levels(List<String> cries) {
        return searches.computeIfAbsent(cries, start -> {
            Map<List<String>, Integer> steps = new HashMap<>();
            ArrayDeque<List<String>> queue = new ArrayDeque<>();
            steps.put(start, 0);
            queue.add(start);
            while (!queue.isEmpty()) {
                List<String> rests = queue.poll();
                for (char word : LETTERS.toCharArray()) {
                    List<String> next = after(rests, word);
                    if (steps.putIfAbsent(next, steps.get(rests) + 1) == null) queue.add(next);
                }
            }
            return steps;
        });
    }

    private int stepsToEnd(List<String> cries) {
        List<String> end = new ArrayList<>();
        for (int c = 0; c < cries.size(); c++) end.add("");
        return levels(cries).get(end);
    }

    private String shortestOf(String one, String two) {
        StringBuilder row = new StringBuilder();
        List<String> rests = List.of(one, two);
        int left = stepsToEnd(rests);
        while (left > 0) {
            for (char word : LETTERS.toCharArray()) {
                List<String> next = after(rests, word);
                if (stepsToEnd(next) == left - 1) {
                    row.append(word);
                    rests = next;
                    left--;
                    break;
                }
            }
        }
        return row.toString();
    }

    /** How many rows of so many WORDS have both in them. */
    private static long rowsWith(String one, String two, int length) {
        Map<List<String>, Long> rows = new HashMap<>();
        rows.put(List.of(one, two), 1L);
        for (int k = 0; k < length; k++) {
            Map<List<String>, Long> longer = new HashMap<>();
            rows.forEach((rests, count) -> {
                for (char word : LETTERS.toCharArray()) longer.merge(after(rests, word), count, Long::sum);
            });
            rows = longer;
        }
        return rows.getOrDefault(List.of("", ""), 0L);
    }

    long shortest(int day, int other, int q) {
        if (noDay(day, other) || q < -1) return LOST;
        String row = shortestOf(days.get(day), days.get(other));
        if (q >= row.length()) return LOST;
        return q == -1 ? rowsWith(days.get(day), days.get(other), row.length()) : row.charAt(q) - 'a';
    }

    int three(int a, int b, int c) {
        return noDay(a, b, c) ? UNKNOWN : stepsToEnd(List.of(days.get(a), days.get(b), days.get(c)));
    }

    long lostDay(int day, int other, int n) {
        if (noDay(day, other) || no(n, 13)) return LOST;
        return allWithin(days.get(other)).stream().filter(row -> row.length() == n && isWithin(days.get(day), row)).count();
    }

    long roots(int day, int n) {
        if (noDay(day) || no(n, 13)) return LOST;
        return allWithin(days.get(day)).stream().filter(row -> row.length() == n).count();
    }

    int breaths(int day, int b) {
        if (noDay(day)) return UNKNOWN;
        if (no(b - 1, 12)) return OUTSIDE;
        String cry = days.get(day);
        int fewest = NONE;
        for (int cuts = 0; cuts < 1 << (cry.length() - 1); cuts++) {
            int many = Integer.bitCount(cuts) + 1;
            if (isBreathed(cry, cuts, b) && (fewest == NONE || many < fewest)) fewest = many;
        }
        return fewest;
    }

    /** Bit k of the cuts: a part ends behind the k-th WORD. */
    private boolean isBreathed(String cry, int cuts, int b) {
        int length = 0;
        for (int k = 0; k < cry.length(); k++) {
            length++;
            if (length > b) return false;
            if ((cuts >> k & 1) != 0) {
                if (kinds[cry.charAt(k) - 'a'] != 0) return false;
                length = 0;
            }
        }
        return true;
    }

    int once(int day, int other, int what) {
        if (noDay(day, other)) return UNKNOWN;
        if (no(what, 2)) return OUTSIDE;
        String one = days.get(day);
        for (int length = one.length(); length > 0; length--) {
            for (int p = 0; p + length <= one.length(); p++) {
                if (days.get(other).contains(one.substring(p, p + length))) return what == 0 ? length : p;
            }
        }
        return what == 0 ? 0 : NONE;
    }

    int twice(int day) {
        return noDay(day) ? UNKNOWN : days.get(day).length() - (int) days.get(day).chars().distinct().count();
    }

    int sheet(int k, int sort, int n) {
        fault = 0;
        if (no(k, 4)) return UNKNOWN;
        if (no(sort, 3) || n > 80) return OUTSIDE;
        if (n < 0) return fail(4);
        rows[k] = new int[n];
        sorts[k] = sort;
        return 1;
    }

    int lose(int k) {
        if (no(k, 4)) return UNKNOWN;
        int had = rows[k] == null ? 0 : 1;
        rows[k] = null;
        return had;
    }

    int put(int k, int i, int v) {
        fault = 0;
        if (no(k, 4)) return UNKNOWN;
        if (rows[k] == null) return fail(1);
        if (no(i, rows[k].length)) return fail(3);
        int cutOff = new int[] {24, 16, 0}[sorts[k]];
        rows[k][i] = v << cutOff >> cutOff;
        return 1;
    }

    long cell(int k, int i, int sort) {
        fault = 0;
        if (no(k, 4) || no(sort, 3)) return LOST;
        if (rows[k] == null) fail(1);
        else if (sorts[k] != sort) fail(2);
        else if (no(i, rows[k].length)) fail(3);
        return fault == 0 ? rows[k][i] : LOST;
    }

    int copy(int k, int i, int other, int j, int n) {
        fault = 0;
        if (no(k, 4) || no(other, 4)) return UNKNOWN;
        if (rows[k] == null || rows[other] == null) return fail(1);
        if (sorts[k] != sorts[other]) return fail(2);
        if (i < 0 || j < 0 || n < 0) return fail(3);
        if (n > rows[k].length - i || n > rows[other].length - j) return fail(3);
        int[] were = rows[k].clone();
        for (int c = 0; c < n; c++) rows[other][j + c] = were[i + c];
        return n;
    }

    int tell(int w) {
        if (no(w, 8)) return UNKNOWN;
        int in = 0;
        for (String cry : days) in += cry.indexOf(LETTERS.charAt(w)) >= 0 ? 1 : 0;
        for (int number : new int[][] {{1}, {2, 1}, {3, 2, 1, 1}}[kinds[w]]) trace = 31 * trace + number;
        return new int[] {in, in + 100, 2 * in + 100}[kinds[w]];
    }

    int sing(int w) {
        if (no(w, 8)) return UNKNOWN;
        trace = 31 * trace + (kinds[w] == 2 ? 5 : 4);
        return kinds[w] == 2 ? 40 : w;
    }

    int as(int w, int kind) {
        fault = 0;
        if (no(w, 8)) return UNKNOWN;
        if (no(kind, 3)) return OUTSIDE;
        return kind <= kinds[w] ? 1 : fail(2);
    }

    int trace() {
        return trace;
    }

    int fault() {
        return fault;
    }

    int many() {
        return days.size();
    }
}
