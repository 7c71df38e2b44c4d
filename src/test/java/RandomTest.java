import java.util.ArrayList;
import java.util.List;
import java.util.Random;

/**
 * Formulas made at random (always the same ones) with what is SHOWN of them known beforehand, moved beside
 * a plain model of a sheet; and bytes at random, of which only the manners are looked at.
 */
public final class RandomTest {
    private static final Checks CHECKS = new Checks();
    private static final Random RANDOM = new Random(20261115);

    /** A corner of a reference: column and row, and if each has its $. */
    private record Corner(int column, boolean columnFixed, int row, boolean rowFixed) {
        String text() {
            return (columnFixed ? "$" : "") + (char) ('A' + column) + (rowFixed ? "$" : "") + (row + 1);
        }

        Corner with(boolean columns, int number) {
            return columns ? new Corner(number, columnFixed, row, rowFixed)
                    : new Corner(column, columnFixed, number, rowFixed);
        }

        int number(boolean columns) {
            return columns ? column : row;
        }
    }

    /** A text that never moves (no corners), a CELL (one corner) or CELL : CELL (two). */
    private record Part(String text, List<Corner> corners) {
        String shown() {
            if (corners.isEmpty()) {
                return text;
            }
            return corners.size() == 1 ? corners.get(0).text() : corners.get(0).text() + ":" + corners.get(1).text();
        }
    }

    private static final Part GONE = new Part("#REF!", List.of());

    public static void main(String[] args) {
        for (int i = 0; i < 4000; i++) {
            moves();
        }
        for (int i = 0; i < 20000; i++) {
            manners();
        }
        CHECKS.finish();
    }

    private static void moves() {
        List<Part> parts = new ArrayList<>();
        StringBuilder written = new StringBuilder();
        add(parts, written, "=", "=");
        expression(parts, written, 2);
        if (written.length() > 2000 || shown(parts).length() > 1000) {
            return;
        }
        FormulaShaper x = new FormulaShaper();
        Checks.feed(x, written.toString());
        CHECKS.same("read " + written, x.read(), shown(parts).length());
        CHECKS.same("shown " + written, Checks.shown(x), shown(parts));
        CHECKS.same("shown is whole " + written, Checks.readAndShown(shown(parts)), shown(parts));
        for (int i = 0; i < 3; i++) {
            parts = moved(x, parts);
        }
    }

    private static List<Part> moved(FormulaShaper x, List<Part> parts) {
        boolean columns = RANDOM.nextBoolean();
        int size = columns ? 26 : 80;
        int k = RANDOM.nextInt(4) == 0 ? size - 1 - RANDOM.nextInt(5) : RANDOM.nextInt(size);
        int n = RANDOM.nextInt(3) == 0 ? size - k : 1 + RANDOM.nextInt(Math.min(5, size - k));
        int down = RANDOM.nextInt(2) == 0 ? RANDOM.nextInt(201) - 100 : RANDOM.nextInt(7) - 3;
        int right = RANDOM.nextInt(7) - 3;
        int kind = RANDOM.nextInt(3);
        List<Part> next = new ArrayList<>();
        for (Part part : parts) {
            next.add(kind == 0 ? copied(part, down, right) : shifted(part, columns, lines(size, k, n, kind == 1)));
        }
        String call = shown(parts) + (kind == 0 ? " copy(" + down + ", " + right + ")"
                : (kind == 1 ? " insert(" : " remove(") + columns + ", " + k + ", " + n + ")");
        int length = shown(next).length();
        if (length > 1000) {
            CHECKS.throwsOnly(call, IndexOutOfBoundsException.class, () -> move(x, kind, columns, k, n, down, right));
            next = parts;
        } else {
            CHECKS.same(call, move(x, kind, columns, k, n, down, right), length);
        }
        CHECKS.same(call + " shown", Checks.shown(x), shown(next));
        CHECKS.same(call + " references", Checks.references(x), references(next));
        return next;
    }

    private static int move(FormulaShaper x, int kind, boolean columns, int k, int n, int down, int right) {
        if (kind == 0) {
            return x.copy(down, right);
        }
        return kind == 1 ? x.insert(columns, k, n) : x.remove(columns, k, n);
    }

    private static Part copied(Part part, int down, int right) {
        List<Corner> corners = new ArrayList<>();
        for (Corner c : part.corners()) {
            int column = c.columnFixed() ? c.column() : c.column() + right;
            int row = c.rowFixed() ? c.row() : c.row() + down;
            if (column < 0 || column > 25 || row < 0 || row > 79) {
                return GONE;
            }
            corners.add(new Corner(column, c.columnFixed(), row, c.rowFixed()));
        }
        return new Part(part.text(), inOrder(corners));
    }

    private static List<Corner> inOrder(List<Corner> corners) {
        if (corners.size() < 2) {
            return corners;
        }
        Corner a = corners.get(0);
        Corner b = corners.get(1);
        Corner byColumn = a.column() <= b.column() ? a : b;
        Corner byRow = a.row() <= b.row() ? a : b;
        Corner otherColumn = byColumn == a ? b : a;
        Corner otherRow = byRow == a ? b : a;
        return List.of(new Corner(byColumn.column(), byColumn.columnFixed(), byRow.row(), byRow.rowFixed()),
                new Corner(otherColumn.column(), otherColumn.columnFixed(), otherRow.row(), otherRow.rowFixed()));
    }

    /** The lines of the sheet afterwards, each with the number it had, -1 for a new one. */
    private static List<Integer> lines(int size, int k, int n, boolean in) {
        List<Integer> lines = new ArrayList<>();
        for (int i = 0; i < size; i++) {
            for (int j = 0; in && i == k && j < n; j++) {
                lines.add(-1);
            }
            if (in || i < k || i >= k + n) {
                lines.add(i);
            }
        }
        return lines.subList(0, Math.min(size, lines.size()));
    }

    private static Part shifted(Part part, boolean columns, List<Integer> lines) {
        if (part.corners().isEmpty()) {
            return part;
        }
        Corner a = part.corners().get(0);
        Corner b = part.corners().get(part.corners().size() - 1);
        List<Integer> left = new ArrayList<>();
        for (int i = 0; i < lines.size(); i++) {
            if (lines.get(i) >= a.number(columns) && lines.get(i) <= b.number(columns)) {
                left.add(i);
            }
        }
        if (left.isEmpty()) {
            return GONE;
        }
        Corner first = a.with(columns, left.get(0));
        Corner last = b.with(columns, left.get(left.size() - 1));
        return new Part("", part.corners().size() == 1 ? List.of(first) : List.of(first, last));
    }

    private static String shown(List<Part> parts) {
        StringBuilder text = new StringBuilder();
        for (Part part : parts) {
            text.append(part.shown());
        }
        return text.toString();
    }

    private static String references(List<Part> parts) {
        StringBuilder text = new StringBuilder();
        for (Part part : parts) {
            if (!part.corners().isEmpty()) {
                Corner a = part.corners().get(0);
                Corner b = part.corners().get(part.corners().size() - 1);
                text.append(text.length() == 0 ? "" : " ");
                text.append(a.row() + "," + a.column() + "," + b.row() + "," + b.column());
            }
        }
        return text.toString();
    }

    private static void add(List<Part> parts, StringBuilder written, String text, String shown) {
        blanks(written);
        written.append(text);
        blanks(written);
        parts.add(new Part(shown, List.of()));
    }

    private static void blanks(StringBuilder written) {
        if (RANDOM.nextInt(8) == 0) {
            written.append(" ".repeat(1 + RANDOM.nextInt(2)));
        }
    }

    private static String oneOf(String words) {
        String[] all = words.split(" ");
        return all[RANDOM.nextInt(all.length)];
    }

    private static void same(List<Part> parts, StringBuilder written, String text) {
        add(parts, written, text, text);
    }

    private static void expression(List<Part> parts, StringBuilder written, int depth) {
        for (int more = RANDOM.nextInt(3); more >= 0; more--) {
            for (int signs = RANDOM.nextInt(6); signs > 4; signs--) {
                same(parts, written, oneOf("+ -"));
            }
            atom(parts, written, depth);
            if (RANDOM.nextInt(8) == 0) {
                same(parts, written, "%");
            }
            if (more > 0) {
                same(parts, written, oneOf("= <> <= >= < > & + - * /"));
            }
        }
    }

    private static void atom(List<Part> parts, StringBuilder written, int depth) {
        int kind = RANDOM.nextInt(depth > 0 ? 12 : 7);
        if (kind < 4) {
            cells(parts, written);
        } else if (kind == 4) {
            String[] numbers = oneOf("0|0 007|7 1.50|1.5 0.0|0 90000000000.0|90000000000 00.05|0.05").split("\\|");
            add(parts, written, numbers[0], numbers[1]);
        } else if (kind == 5) {
            same(parts, written, RANDOM.nextBoolean() ? "\" A1 \"\"\"" : oneOf("TRUE FALSE #N/A #REF! #DIV/0!"));
        } else if (kind == 6) {
            same(parts, written, oneOf("X A81 A0 SUM TRUEST Z80_ AA1 ABCDEFGHIJKL"));
        } else {
            bracket(parts, written, depth, kind);
        }
    }

    private static void bracket(List<Part> parts, StringBuilder written, int depth, int kind) {
        if (kind == 7) {
            for (String thing : oneOf("{|1|} {|-|2|,|TRUE|;|#N/A|,|3|}").split("\\|")) {
                same(parts, written, thing);
            }
            return;
        }
        int most = 1;
        if (kind == 8) {
            for (String thing : oneOf("LET|(|X|,|1|, LAMBDA|( LAMBDA|(|X|,|SUM|,").split("\\|")) {
                same(parts, written, thing);
            }
        } else {
            most = kind == 9 ? 1 : 2;
            String name = kind == 9 ? oneOf("ABS SUM FOO") : oneOf("ROUND IF SUM FOO CHOOSE");
            if (kind != 11) {
                same(parts, written, name);
            } else {
                most = 1;
            }
            same(parts, written, "(");
        }
        for (int n = 1; n <= most; n++) {
            expression(parts, written, depth - 1);
            same(parts, written, n < most ? "," : ")");
        }
    }

    private static Corner corner() {
        int row = RANDOM.nextInt(3) == 0 ? RANDOM.nextInt(80) : (RANDOM.nextInt(14) + 74) % 80;
        return new Corner(RANDOM.nextInt(26), RANDOM.nextInt(3) == 0, row, RANDOM.nextInt(3) == 0);
    }

    private static void cells(List<Part> parts, StringBuilder written) {
        Corner a = corner();
        blanks(written);
        written.append(a.text());
        List<Corner> corners = List.of(a);
        if (RANDOM.nextBoolean()) {
            Corner b = corner();
            blanks(written);
            written.append(":");
            blanks(written);
            written.append(b.text());
            corners = inOrder(List.of(a, b));
        }
        blanks(written);
        parts.add(new Part("", corners));
    }

    /** Whatever the tape holds, read() does one of three things, and the formula that was stays if it throws. */
    private static void manners() {
        String some = "=<>&+-*/%(){},;:.$\"#_ A1BZ80TRUELETSUM(,)9!?/Nz\u0000\u007f\u00ff";
        StringBuilder text = new StringBuilder(RANDOM.nextInt(10) == 0 ? "" : "=");
        for (int more = RANDOM.nextInt(30); more > 0; more--) {
            text.append(some.charAt(RANDOM.nextInt(some.length())));
        }
        FormulaShaper x = Checks.reading("=A1:$B2+7");
        Checks.feed(x, text.toString());
        String thrown = Checks.thrownBy(() -> x.read());
        int place = x.count(2);
        CHECKS.same("tape after read of " + text, x.count(0), 0);
        if (thrown.equals("nothing")) {
            CHECKS.same("place of the whole " + text, place, -1);
            CHECKS.same("round trip of " + text, Checks.readAndShown(Checks.shown(x)), Checks.shown(x));
        } else {
            CHECKS.same("thrown by read of " + text, thrown, "UnsupportedOperationException");
            CHECKS.same("place in " + text, place >= 0 && place <= text.length(), true);
            CHECKS.same("what stays after " + text, Checks.shown(x), "=A1:$B2+7");
            // Nothing before the PLACE may be what breaks it; but a small letter makes a WORD of a CELL before it.
            if (place < text.length() && text.charAt(place) == 'z') {
                return;
            }
            Checks.feed(x, text.substring(0, place));
            Checks.thrownBy(() -> x.read());
            CHECKS.same("place in what is before " + text, x.count(2) == -1 || x.count(2) == place, true);
        }
    }
}
