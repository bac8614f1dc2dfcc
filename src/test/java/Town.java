/**
 * An object that has something of everything, made anew as often as a test wants it,
 * and all that can be seen of an object, so that two can be compared.
 */
final class Town {
    /** What fault() tells is left as it was. */
    static final int KEPT = -1;
    static final int NO_FAULT = 0, NULL = 1, CAST = 2, INDEX = 3, SIZE = 4;
    private static final long LOST = Long.MIN_VALUE;

    interface Call {
        long on(AddedCries x);
    }

    interface Made {
        AddedCries make();
    }

    private Town() {
    }

    /** No DAYS: nothing has been done with it. */
    static AddedCries empty() {
        return new AddedCries();
    }

    /** DAYS ab, adbec, cab (d a DENIAL, e a DOUBT); SHEET 0 bytes 5 6 7, 1 shorts 8 9, 2 nothing, 3 ints with the TEXT. */
    static AddedCries some() {
        AddedCries x = Check.of("ab;adbec;cab");
        x.kind(3, 1);
        x.kind(4, 2);
        fill(x, 0, 0, 5, 6, 7);
        fill(x, 1, 1, 8, 9);
        x.sing(1);
        return x;
    }

    /** Two DAYS, of which the last has as many WORDS as it can have. */
    static AddedCries full() {
        AddedCries x = Check.of("ab;abcdefghabcd");
        x.kind(3, 1);
        return x;
    }

    static void fill(AddedCries x, int sheet, int sort, int... cells) {
        x.sheet(sheet, sort, cells.length);
        for (int i = 0; i < cells.length; i++) {
            x.put(sheet, i, cells[i]);
        }
    }

    /** Calls that leave this FAULT (NULL or CAST) behind and change nothing else; SHEET 2 must have nothing, a be a plain WORD. */
    static void leave(AddedCries x, int fault) {
        if (fault == NULL) {
            x.put(2, 0, 0);
        } else {
            x.as(0, 2);
        }
    }

    /**
     * A call that must answer so, leave this FAULT behind, and change nothing else.
     * It is made behind two unlike FAULTS, so that one that is left and one that is kept can be told apart.
     */
    static void changesNothing(Check check, String call, Made made, Call of, long want, int fault) {
        for (int ahead = NULL; ahead <= CAST; ahead++) {
            AddedCries x = made.make();
            leave(x, ahead);
            check.due(call, of.on(x), want);
            check.due(call + ": fault()", x.fault(), fault == KEPT ? ahead : fault);
            check.same(call + ": what there is", seen(x), seen(made.make()));
        }
    }

    /** All that can be seen, but for fault(), which is changed by looking at SHEETS. */
    static String seen(AddedCries x) {
        StringBuilder all = new StringBuilder("trace ").append(x.trace()).append(" many ").append(x.many());
        for (int day = 0; day < x.many(); day++) {
            all.append(" day ").append(Check.cry(x, day));
        }
        all.append(" kinds");
        for (int w = 0; w < 8; w++) {
            int kind = x.kind(w, 0);
            x.kind(w, kind);
            all.append(' ').append(kind);
        }
        for (int k = 0; k < 4; k++) {
            all.append(" sheet").append(sheet(x, k));
        }
        return all.toString();
    }

    private static String sheet(AddedCries x, int k) {
        for (int sort = 0; sort < 3; sort++) {
            long first = x.cell(k, 0, sort);
            if (first == LOST && x.fault() == NULL) {
                return " nothing";
            }
            if (first != LOST || x.fault() == INDEX) {
                return cells(x, k, sort);
            }
        }
        return " of no sort";
    }

    private static String cells(AddedCries x, int k, int sort) {
        StringBuilder row = new StringBuilder(" of sort ").append(sort);
        for (int i = 0; i <= 80; i++) {
            long cell = x.cell(k, i, sort);
            if (cell == LOST) {
                return row.toString();
            }
            row.append(' ').append(cell);
        }
        return row.append(" too long").toString();
    }
}
