import java.util.NoSuchElementException;
import java.util.function.ToIntFunction;

/** Promises 5, 6, 7 and 9: references moved, and told. */
public final class MoveTest {
    private static final Checks CHECKS = new Checks();

    public static void main(String[] args) {
        copy();
        insert();
        remove();
        reference();
        refused();
        room();
        roomOfEachMove();
        CHECKS.finish();
    }

    private static void copied(String formula, int down, int right, String due) {
        FormulaShaper x = Checks.reading(formula);
        CHECKS.same(formula + " copy(" + down + ", " + right + ") length", x.copy(down, right), due.length());
        CHECKS.same(formula + " copy(" + down + ", " + right + ")", Checks.shown(x), due);
    }

    private static void inserted(String formula, boolean columns, int k, int n, String due) {
        FormulaShaper x = Checks.reading(formula);
        String call = formula + " insert(" + columns + ", " + k + ", " + n + ")";
        CHECKS.same(call + " length", x.insert(columns, k, n), due.length());
        CHECKS.same(call, Checks.shown(x), due);
    }

    private static void removed(String formula, boolean columns, int k, int n, String due) {
        FormulaShaper x = Checks.reading(formula);
        String call = formula + " remove(" + columns + ", " + k + ", " + n + ")";
        CHECKS.same(call + " length", x.remove(columns, k, n), due.length());
        CHECKS.same(call, Checks.shown(x), due);
    }

    private static void copy() {
        copied("=A1+$A1+A$1+$A$1", 2, 3, "=D3+$A3+D$1+$A$1");
        copied("=C3", -2, -2, "=A1");
        copied("=A9+A10", 1, 0, "=A10+A11");
        copied("=A1", 79, 25, "=Z80");
        copied("=A1+B2", 80, 0, "=#REF!+#REF!");
        copied("=A1+$A$80", 79, 26, "=#REF!+$A$80");
        copied("=A1+B2", -1, 0, "=#REF!+B1");
        copied("=A1+B2", 0, -1, "=#REF!+A2");
        copied("=Z1", 0, 1, "=#REF!");
        copied("=$A$1", 100, -100, "=$A$1");
        copied("=A1:B2", 1, 1, "=B2:C3");
        copied("=A1:B80", 1, 0, "=#REF!");
        copied("=A1:B$80", 1, 0, "=A2:B$80");
        copied("=A1:Z1", 0, 1, "=#REF!");
        copied("=A2:B3", -2, 0, "=#REF!");
        copied("=A$2:B5", -4, 0, "=A1:B$2");
        copied("=$B1:C1", 0, -2, "=A1:$B1");
        copied("=$B1:C1", 0, -1, "=$B1:B1");
        copied("=$B$5:C6", -5, -2, "=A1:$B$5");
        copied("=\"A1\"&A1&#REF!&A81", 1, 1, "=\"A1\"&B2&#REF!&A81");
        copied("=SUM(A1:B2,C3)", 0, 0, "=SUM(A1:B2,C3)");
    }

    private static void insert() {
        inserted("=A1+A2+A3", false, 1, 2, "=A1+A4+A5");
        inserted("=A1+B1+C1", true, 1, 2, "=A1+D1+E1");
        inserted("=$A$1+$A$80", false, 0, 1, "=$A$2+#REF!");
        inserted("=A1", false, 0, 79, "=A80");
        inserted("=A1", false, 0, 80, "=#REF!");
        inserted("=A1", true, 0, 25, "=Z1");
        inserted("=A1", true, 0, 26, "=#REF!");
        inserted("=A79+A80", false, 79, 1, "=A79+#REF!");
        inserted("=A1:B3", false, 1, 2, "=A1:B5");
        inserted("=A1:B3", false, 0, 2, "=A3:B5");
        inserted("=A1:B3", false, 3, 2, "=A1:B3");
        inserted("=A1:$C$3", true, 1, 2, "=A1:$E$3");
        inserted("=A1:B$80", false, 40, 3, "=A1:B$80");
        inserted("=A71:B80", false, 75, 3, "=A71:B80");
        inserted("=A71:B79", false, 70, 3, "=A74:B80");
        inserted("=A79:B80", false, 0, 1, "=A80:B80");
        inserted("=A79:B80", false, 0, 2, "=#REF!");
        // All from row 75 on goes beyond the last, so the last one that is left in it is the row before.
        inserted("=A71:B80", false, 75, 5, "=A71:B75");
        inserted("=A71:B80", false, 70, 10, "=#REF!");
        inserted("=W1:Z1", true, 25, 1, "=W1:Y1");
        inserted("=W1:$Z1", true, 24, 1, "=W1:$Z1");
        inserted("=C3:A1", false, 1, 1, "=A1:C4");
    }

    private static void remove() {
        removed("=A1+A2+A3+A4", false, 1, 2, "=A1+#REF!+#REF!+A2");
        removed("=A1+B1+C1+D1", true, 1, 2, "=A1+#REF!+#REF!+B1");
        removed("=$A$10", false, 0, 9, "=$A$1");
        removed("=A80+Z1", false, 79, 1, "=#REF!+Z1");
        removed("=A80+Z1", true, 25, 1, "=A80+#REF!");
        removed("=A1:B10", false, 2, 3, "=A1:B7");
        removed("=A1:B10", false, 0, 3, "=A1:B7");
        removed("=A5:B10", false, 0, 3, "=A2:B7");
        removed("=A5:B10", false, 0, 5, "=A1:B5");
        removed("=A5:B10", false, 8, 5, "=A5:B8");
        removed("=A5:B10", false, 10, 5, "=A5:B10");
        removed("=A5:B10", false, 4, 6, "=#REF!");
        removed("=A5:B10", false, 4, 5, "=A5:B5");
        removed("=A5:B10", false, 5, 75, "=A5:B5");
        removed("=A$5:$B10", false, 3, 3, "=A$4:$B7");
        removed("=C1:$F2", true, 1, 2, "=B1:$D2");
        removed("=C1:F2", true, 0, 26, "=#REF!");
        removed("=C1:F2+A1", false, 0, 80, "=#REF!+#REF!");
        removed("=B2:A1", true, 0, 1, "=A1:A2");
    }

    private static void reference() {
        CHECKS.same("references", Checks.references(Checks.reading("=SUM(B3,$Z$80,C5:A2)+A1:A1")),
                "2,1,2,1 79,25,79,25 1,0,4,2 0,0,0,0");
        FormulaShaper x = Checks.reading("=A1+B2+C3");
        x.copy(-1, 0);
        CHECKS.same("what is #REF! is none", Checks.references(x), "0,1,0,1 1,2,1,2");
        CHECKS.throwsOnly("reference 2 of 2", NoSuchElementException.class, () -> x.reference(2, 0));
        CHECKS.throwsOnly("reference -1", NoSuchElementException.class, () -> x.reference(-1, 0));
        CHECKS.throwsOnly("reference MAX", NoSuchElementException.class, () -> x.reference(Integer.MAX_VALUE, 3));
        CHECKS.throwsOnly("side 4", IllegalArgumentException.class, () -> x.reference(0, 4));
        CHECKS.throwsOnly("side -1", IllegalArgumentException.class, () -> x.reference(0, -1));
        CHECKS.throwsOnly("side 4 of none", IllegalArgumentException.class, () -> x.reference(9, 4));
        FormulaShaper none = new FormulaShaper();
        CHECKS.throwsOnly("side 4, no formula", IllegalArgumentException.class, () -> none.reference(0, 4));
        CHECKS.throwsOnly("no formula", IllegalStateException.class, () -> none.reference(0, 3));
        CHECKS.same("texts and words are none", Checks.references(Checks.reading("=\"A1\"&A81&A1B&TRUE")), "");
    }

    private static void refused() {
        FormulaShaper none = new FormulaShaper();
        FormulaShaper x = Checks.reading("=B2");
        int[][] tooFar = {{101, 0}, {-101, 0}, {0, 101}, {0, -101}, {Integer.MIN_VALUE, 0}, {0, Integer.MAX_VALUE}};
        for (int[] by : tooFar) {
            String call = "copy(" + by[0] + ", " + by[1] + ")";
            CHECKS.throwsOnly(call, IllegalArgumentException.class, () -> x.copy(by[0], by[1]));
            CHECKS.throwsOnly(call + " of none", IllegalArgumentException.class, () -> none.copy(by[0], by[1]));
        }
        int max = Integer.MAX_VALUE;
        int min = Integer.MIN_VALUE;
        int[][] shifts = {{-1, 1}, {0, 0}, {0, -1}, {0, 81}, {80, 1}, {79, 2}, {80, 0}, {81, -1},
            {max, max}, {max, 1}, {1, max}, {min, 1}, {0, min}, {min, min}, {max, min}};
        for (int[] kn : shifts) {
            refusedShift(x, none, false, kn[0], kn[1]);
            refusedShift(x, none, true, kn[0], kn[1]);
        }
        refusedShift(x, none, true, 0, 27);
        refusedShift(x, none, true, 26, 1);
        refusedShift(x, none, true, 25, 2);
        CHECKS.same("nothing has changed", Checks.shown(x), "=B2");
        CHECKS.throwsOnly("insert, no formula", IllegalStateException.class, () -> none.insert(true, 25, 1));
        CHECKS.throwsOnly("remove, no formula", IllegalStateException.class, () -> none.remove(false, 79, 1));
        CHECKS.throwsOnly("copy, no formula", IllegalStateException.class, () -> none.copy(-100, 100));
    }

    private static void refusedShift(FormulaShaper x, FormulaShaper none, boolean columns, int k, int n) {
        String call = "(" + columns + ", " + k + ", " + n + ")";
        Class<IllegalArgumentException> due = IllegalArgumentException.class;
        CHECKS.throwsOnly("insert" + call, due, () -> x.insert(columns, k, n));
        CHECKS.throwsOnly("remove" + call, due, () -> x.remove(columns, k, n));
        CHECKS.throwsOnly("insert of none" + call, due, () -> none.insert(columns, k, n));
        CHECKS.throwsOnly("remove of none" + call, due, () -> none.remove(columns, k, n));
    }

    private static void room() {
        String many = "=" + "A9+".repeat(332) + "A9";
        FormulaShaper x = Checks.reading(many);
        CHECKS.same("333 references", x.count(3), 333);
        CHECKS.throwsOnly("copy, no room", IndexOutOfBoundsException.class, () -> x.copy(1, 0));
        CHECKS.throwsOnly("copy to #REF!, no room", IndexOutOfBoundsException.class, () -> x.copy(-9, 0));
        CHECKS.throwsOnly("insert, no room", IndexOutOfBoundsException.class, () -> x.insert(false, 3, 1));
        CHECKS.throwsOnly("remove, no room", IndexOutOfBoundsException.class, () -> x.remove(true, 0, 1));
        CHECKS.throwsOnly("too far, no room", IllegalArgumentException.class, () -> x.copy(101, 0));
        CHECKS.same("nothing has changed", Checks.shown(x), many);
        CHECKS.same("all references are left", x.count(3), 333);
        CHECKS.same("as long as before", x.copy(-8, 25), many.length());
        CHECKS.same("all moved", Checks.shown(x), many.replace("A9", "Z1"));

        FormulaShaper edge = Checks.reading("=A9+" + "1+".repeat(497) + "1");
        CHECKS.same("999 bytes", edge.show(), 999);
        CHECKS.same("1000 bytes", edge.copy(1, 0), 1000);
        CHECKS.same("1000 bytes again", edge.insert(false, 0, 1), 1000);
        FormulaShaper beyond = Checks.reading("=A9+" + "1+".repeat(497) + "12");
        CHECKS.throwsOnly("1001 bytes", IndexOutOfBoundsException.class, () -> beyond.insert(false, 0, 1));
    }

    /** A move that makes it longer by each of a few bytes: 1000 bytes SHOWN are allowed, 1001 are not. */
    private static void roomOfEachMove() {
        roomFor("A9", "A10", x -> x.copy(1, 0));
        roomFor("A1", "#REF!", x -> x.copy(0, -1));
        roomFor("A9:B9", "A10:B10", x -> x.copy(1, 0));
        roomFor("A80", "#REF!", x -> x.copy(1, 0));
        roomFor("$A$9", "$A$10", x -> x.insert(false, 0, 1));
        roomFor("A1:B9", "A1:B10", x -> x.insert(false, 8, 1));
        roomFor("Z1", "#REF!", x -> x.insert(true, 25, 1));
        roomFor("A1", "#REF!", x -> x.remove(false, 0, 1));
        roomFor("A1", "#REF!", x -> x.remove(true, 0, 26));
    }

    private static void roomFor(String before, String after, ToIntFunction<FormulaShaper> move) {
        for (int length = 998; length <= 1000 + after.length() - before.length(); length++) {
            String rest = "+1" + "%".repeat(length - 3 - after.length());
            FormulaShaper x = Checks.reading("=" + before + rest);
            String due = length <= 1000 ? String.valueOf(length) : "throws.IndexOutOfBoundsException";
            CHECKS.same(before + " to " + after + ", " + length, Checks.answer(() -> move.applyAsInt(x)), due);
            CHECKS.same(before + " to " + after + ", " + length + " shown", Checks.shown(x),
                    "=" + (length <= 1000 ? after : before) + rest);
        }
    }
}
