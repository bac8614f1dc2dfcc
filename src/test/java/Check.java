/** Counts the answers that are not due; a test ends with exit code 1 if there was one. */
final class Check {
    private int wrong = 0;
    private int right = 0;

    void due(String call, long got, long want) {
        if (got == want) {
            right++;
            return;
        }
        wrong++;
        if (wrong <= 40) {
            System.out.println(call + " answered " + got + ", due is " + want);
        }
    }

    void holds(String what, boolean does) {
        due(what, does ? 1 : 0, 1);
    }

    void same(String what, String got, String want) {
        holds(what + " is <" + got + ">, due is <" + want + ">", got.equals(want));
    }

    int wrong() {
        return wrong;
    }

    void end() {
        System.out.println(wrong == 0 ? right + " answers are as due" : wrong + " answers are not as due");
        if (wrong != 0) {
            System.exit(1);
        }
    }

    /** Writes a row of codes into a SHEET of ints, from its first cell on. */
    static void write(AddedCries x, int sheet, String text) {
        x.sheet(sheet, 2, text.length());
        for (int i = 0; i < text.length(); i++) {
            x.put(sheet, i, text.charAt(i));
        }
    }

    /** Takes a TEXT by way of SHEET 3. */
    static int cries(AddedCries x, String text) {
        write(x, 3, text);
        return x.cries(3, 2, 0, text.length());
    }

    static AddedCries of(String text) {
        AddedCries x = new AddedCries();
        cries(x, text);
        return x;
    }

    /** The CRY of a DAY as letters; a word of its own where there is no such DAY. */
    static String cry(AddedCries x, int day) {
        int size = x.ofDay(day, -1);
        if (size < 0) {
            return "none";
        }
        StringBuilder letters = new StringBuilder();
        for (int k = 0; k < size; k++) {
            letters.append((char) ('a' + x.ofDay(day, k)));
        }
        return letters.toString();
    }

    void dueCry(AddedCries x, int day, String want) {
        same("the CRY of DAY " + day, cry(x, day), want);
    }
}
