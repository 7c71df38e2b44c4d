import java.util.function.IntUnaryOperator;

/**
 * Every row and every column under every copy, and under every number of rows or columns put in or taken out;
 * every CELL : CELL of columns, and those of rows whose ends are near an edge. What is due is told number by
 * number in the document's words; GONE is #REF!.
 */
public final class SheetTest {
    private static final Checks CHECKS = new Checks();
    private static final int GONE = -1;
    private static final int[] ROWS = {0, 1, 2, 8, 9, 10, 39, 40, 77, 78, 79};

    public static void main(String[] args) {
        everyCopyOfRows();
        everyCopyOfColumns();
        everyShiftOfRows();
        everyShiftOfColumns();
        everyShiftOfColumnPairs();
        shiftsOfRowPairs();
        CHECKS.finish();
    }

    private static String row(int number, String mark) {
        return "A" + mark + (number + 1);
    }

    private static String column(int number, String mark) {
        return mark + (char) ('A' + number) + "1";
    }

    /** All the rows (columns) in one formula, each where the operator has it. */
    private static String all(boolean columns, String mark, IntUnaryOperator goesTo) {
        StringBuilder text = new StringBuilder("=0");
        for (int i = 0; i < (columns ? 26 : 80); i++) {
            int to = goesTo.applyAsInt(i);
            String moved = columns ? column(to, mark) : row(to, mark);
            text.append("+").append(to == GONE ? "#REF!" : moved);
        }
        return text.toString();
    }

    private static void due(String call, FormulaShaper x, int length, String formula) {
        CHECKS.same(call + " length", length, formula.length());
        CHECKS.same(call, Checks.shown(x), formula);
    }

    /** Rows without $ by as much; beyond the sheet: #REF!. */
    private static void everyCopyOfRows() {
        for (int down = -100; down <= 100; down++) {
            int by = down;
            FormulaShaper x = Checks.reading(all(false, "", i -> i));
            due("copy(" + by + ", 0)", x, x.copy(by, 0), all(false, "", i -> i + by < 0 || i + by > 79 ? GONE : i + by));
            FormulaShaper fixed = Checks.reading(all(false, "$", i -> i));
            due("copy(" + by + ", 0) with $", fixed, fixed.copy(by, 0), all(false, "$", i -> i));
            FormulaShaper others = Checks.reading(all(true, "", i -> i).replace("1", "$1"));
            due("copy(" + by + ", 0) of columns", others, others.copy(by, 0), all(true, "", i -> i).replace("1", "$1"));
        }
    }

    private static void everyCopyOfColumns() {
        for (int right = -100; right <= 100; right++) {
            int by = right;
            FormulaShaper x = Checks.reading(all(true, "", i -> i));
            due("copy(0, " + by + ")", x, x.copy(0, by), all(true, "", i -> i + by < 0 || i + by > 25 ? GONE : i + by));
            FormulaShaper fixed = Checks.reading(all(true, "$", i -> i));
            due("copy(0, " + by + ") with $", fixed, fixed.copy(0, by), all(true, "$", i -> i));
        }
    }

    /** Put in before k: from k on by n further. Beyond the last there is none. */
    private static int inserted(int i, int k, int n, int size) {
        if (i < k) {
            return i;
        }
        return i + n < size ? i + n : GONE;
    }

    /** Taken out: by n back; of what is taken out: #REF!. */
    private static int removed(int i, int k, int n) {
        if (i < k) {
            return i;
        }
        return i < k + n ? GONE : i - n;
    }

    private static void everyShiftOfRows() {
        for (int k = 0; k < 80; k++) {
            for (int n = 1; k + n <= 80; n++) {
                shiftAll(false, n % 2 == 0 ? "" : "$", k, n);
            }
        }
    }

    private static void everyShiftOfColumns() {
        for (int k = 0; k < 26; k++) {
            for (int n = 1; k + n <= 26; n++) {
                shiftAll(true, n % 2 == 0 ? "" : "$", k, n);
            }
        }
    }

    private static void shiftAll(boolean columns, String mark, int k, int n) {
        String call = "(" + columns + ", " + k + ", " + n + ")";
        FormulaShaper x = Checks.reading(all(columns, mark, i -> i));
        due("insert" + call, x, x.insert(columns, k, n), all(columns, mark, i -> inserted(i, k, n, columns ? 26 : 80)));
        FormulaShaper y = Checks.reading(all(columns, mark, i -> i));
        due("remove" + call, y, y.remove(columns, k, n), all(columns, mark, i -> removed(i, k, n)));
    }

    /** The CELL : CELL from first to last, of which each number goes where the operator has it. */
    private static String pair(boolean columns, int first, int last, IntUnaryOperator goesTo) {
        int from = GONE;
        int to = GONE;
        for (int i = first; i <= last; i++) {
            int there = goesTo.applyAsInt(i);
            from = from == GONE ? there : from;
            to = there == GONE ? to : there;
        }
        if (from == GONE) {
            return "#REF!";
        }
        return columns ? column(from, "") + ":" + column(to, "$") : row(from, "$") + ":" + row(to, "");
    }

    private static String pairs(boolean columns, int first, int[] lasts, IntUnaryOperator goesTo) {
        StringBuilder text = new StringBuilder("=0");
        for (int last : lasts) {
            if (last >= first) {
                text.append("+").append(pair(columns, first, last, goesTo));
            }
        }
        return text.toString();
    }

    private static void shiftPairs(boolean columns, int first, int[] lasts, int k, int n) {
        String call = "(" + columns + ", " + k + ", " + n + ") from " + first;
        FormulaShaper x = Checks.reading(pairs(columns, first, lasts, i -> i));
        due("insert" + call, x, x.insert(columns, k, n),
                pairs(columns, first, lasts, i -> inserted(i, k, n, columns ? 26 : 80)));
        FormulaShaper y = Checks.reading(pairs(columns, first, lasts, i -> i));
        due("remove" + call, y, y.remove(columns, k, n), pairs(columns, first, lasts, i -> removed(i, k, n)));
    }

    private static void everyShiftOfColumnPairs() {
        int[] lasts = new int[26];
        for (int i = 0; i < 26; i++) {
            lasts[i] = i;
        }
        for (int first = 0; first < 26; first++) {
            for (int k = 0; k < 26; k++) {
                for (int n = 1; k + n <= 26; n++) {
                    shiftPairs(true, first, lasts, k, n);
                }
            }
        }
    }

    private static void shiftsOfRowPairs() {
        for (int first : ROWS) {
            for (int k = 0; k < 80; k++) {
                for (int n = 1; k + n <= 80; n += k + n < 75 && n > 3 ? 4 : 1) {
                    shiftPairs(false, first, ROWS, k, n);
                }
            }
        }
    }
}
