import java.util.List;

/**
 * Every row of a few things behind some beginnings, beside the model. Where a row is broken before its end, no
 * longer one is tried: it would be broken at the same place.
 */
public final class ShortTest {
    private static final Checks CHECKS = new Checks();
    private static final List<String> THINGS = List.of("1", "\"a\"", "TRUE", "#N/A", "A1", "$B$2", ":", "X", "ABS", "IF",
            "LET", "LAMBDA", "(", ")", "{", "}", ",", ";", "=", "<>", "-", "*", "%", "?");
    private static final List<String> BEGINNINGS = List.of("", "=IF(1,", "=LET(X,1,", "=LET(A,1,B,2,C,3,D,4,E,",
            "=LET(A,1,B,2,C,3,D,4,E,5,", "=LAMBDA(A,B,C,D,", "=LAMBDA(A,B,C,D,E,", "={1,2;", "=FOO(", "=" + "(".repeat(11));
    // An object is promised for 512 calls: as many formulas as fit in, with four calls each or a few more.
    private static final int FORMULAS_PER_OBJECT = 40;

    private FormulaShaper x = new FormulaShaper();
    private int made = 0;

    public static void main(String[] args) {
        ShortTest all = new ShortTest();
        for (String beginning : BEGINNINGS) {
            all.tryBehind(beginning, beginning.isEmpty() ? 5 : 4);
        }
        CHECKS.finish();
    }

    private void tryBehind(String before, int more) {
        for (String thing : THINGS) {
            String row = before + " " + thing;
            int place = tryOne(row);
            boolean mayGoOn = place == -1 || place == row.length();
            if (mayGoOn && more > 1) {
                tryBehind(row, more - 1);
            }
        }
    }

    private int tryOne(String row) {
        if (made == FORMULAS_PER_OBJECT) {
            x = new FormulaShaper();
            made = 0;
        }
        made++;
        Checks.feed(x, row);
        boolean isWhole = Checks.thrownBy(() -> x.read()).equals("nothing");
        int due = new ModelReading(row).place();
        CHECKS.same("place in" + row, x.count(2), due);
        CHECKS.same("whole:" + row, isWhole, due == -1);
        return due;
    }
}
