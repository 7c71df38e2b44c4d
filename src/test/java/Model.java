import java.util.ArrayList;
import java.util.List;
import java.util.NoSuchElementException;
import java.util.function.UnaryOperator;

/**
 * The document a second time, in another way, so that the class can be tried beside it: parts in lists, and
 * rows and columns as lines of a sheet that come and go. How a formula is read is in ModelReading.
 */
final class Model {
    /** A corner of a reference: column and row, and if each has its $. */
    record Corner(int column, boolean columnFixed, int row, boolean rowFixed) {
        String text() {
            return (columnFixed ? "$" : "") + (char) ('A' + column) + (rowFixed ? "$" : "") + (row + 1);
        }

        Corner with(boolean columns, int number) {
            return columns ? new Corner(number, columnFixed, row, rowFixed)
                    : new Corner(column, columnFixed, number, rowFixed);
        }

        int number(boolean columns) {
            return columns ? column : row;
        }
    }

    /** A text that never moves (no corners), a CELL (one corner) or CELL : CELL (two, in order). */
    record Part(String text, List<Corner> corners) {
        static Part text(String text) {
            return new Part(text, List.of());
        }

        static Part cells(List<Corner> corners) {
            return new Part("", corners.size() < 2 ? corners : inOrder(corners.get(0), corners.get(1)));
        }

        private static List<Corner> inOrder(Corner a, Corner b) {
            Corner byColumn = a.column() <= b.column() ? a : b;
            Corner byRow = a.row() <= b.row() ? a : b;
            Corner otherColumn = byColumn == a ? b : a;
            Corner otherRow = byRow == a ? b : a;
            return List.of(new Corner(byColumn.column(), byColumn.columnFixed(), byRow.row(), byRow.rowFixed()),
                    new Corner(otherColumn.column(), otherColumn.columnFixed(), otherRow.row(), otherRow.rowFixed()));
        }

        boolean isReference() {
            return !corners.isEmpty();
        }

        Corner first() {
            return corners.get(0);
        }

        Corner last() {
            return corners.get(corners.size() - 1);
        }

        String shown() {
            StringBuilder shown = new StringBuilder(text);
            for (Corner corner : corners) {
                shown.append(shown.length() == 0 ? "" : ":").append(corner.text());
            }
            return shown.toString();
        }

        Part copied(int down, int right) {
            List<Corner> moved = new ArrayList<>();
            for (Corner c : corners) {
                int column = c.columnFixed() ? c.column() : c.column() + right;
                int row = c.rowFixed() ? c.row() : c.row() + down;
                if (column < 0 || column > 25 || row < 0 || row > 79) {
                    return GONE;
                }
                moved.add(new Corner(column, c.columnFixed(), row, c.rowFixed()));
            }
            return isReference() ? cells(moved) : this;
        }

        Part shifted(boolean columns, List<Integer> lines) {
            if (!isReference()) {
                return this;
            }
            List<Integer> left = new ArrayList<>();
            for (int i = 0; i < lines.size(); i++) {
                if (lines.get(i) >= first().number(columns) && lines.get(i) <= last().number(columns)) {
                    left.add(i);
                }
            }
            if (left.isEmpty()) {
                return GONE;
            }
            Corner from = first().with(columns, left.get(0));
            Corner to = last().with(columns, left.get(left.size() - 1));
            return new Part("", corners.size() == 1 ? List.of(from) : List.of(from, to));
        }
    }

    private static final Part GONE = Part.text("#REF!");

    private final StringBuilder tape = new StringBuilder();
    private String result = "";
    private List<Part> formula = null;
    private int place = -1;

    int feed(int a, int b, int c, int d, int e) {
        if (tape.length() > 1980) {
            throw new IndexOutOfBoundsException();
        }
        for (int four : new int[] {a, b, c, d, e}) {
            for (int shift = 24; shift >= 0; shift -= 8) {
                tape.append((char) (four >>> shift & 255));
            }
        }
        return tape.length();
    }

    int end(int n) {
        if (n < 0 || n > tape.length()) {
            throw new IllegalArgumentException();
        }
        tape.setLength(n);
        return n;
    }

    int read() {
        ModelReading reading = new ModelReading(tape.toString());
        tape.setLength(0);
        place = reading.place();
        if (place != -1) {
            throw new UnsupportedOperationException();
        }
        return settle(reading.parts());
    }

    int copy(int down, int right) {
        if (Math.abs((long) down) > 100 || Math.abs((long) right) > 100) {
            throw new IllegalArgumentException();
        }
        return moved(part -> part.copied(down, right));
    }

    int insert(boolean columns, int k, int n) {
        List<Integer> lines = lines(columns ? 26 : 80, k, n, true);
        return moved(part -> part.shifted(columns, lines));
    }

    int remove(boolean columns, int k, int n) {
        List<Integer> lines = lines(columns ? 26 : 80, k, n, false);
        return moved(part -> part.shifted(columns, lines));
    }

    int show() {
        need();
        result = shown(formula);
        return result.length();
    }

    int reference(int i, int side) {
        if (side < 0 || side > 3) {
            throw new IllegalArgumentException();
        }
        need();
        List<Part> all = formula.stream().filter(Part::isReference).toList();
        if (i < 0 || i >= all.size()) {
            throw new NoSuchElementException();
        }
        Corner corner = side < 2 ? all.get(i).first() : all.get(i).last();
        return corner.number(side == 1 || side == 3);
    }

    long word(int i) {
        if (i < 0 || i >= result.length()) {
            throw new IndexOutOfBoundsException();
        }
        String eight = (result + "\0\0\0\0\0\0\0").substring(i, i + 8);
        long word = 0;
        for (char one : eight.toCharArray()) {
            word = word * 256 + one;
        }
        return word;
    }

    int count(int what) {
        if (what < 0 || what > 3) {
            throw new IllegalArgumentException();
        }
        int references = formula == null ? 0 : (int) formula.stream().filter(Part::isReference).count();
        return new int[] {tape.length(), result.length(), place, references}[what];
    }

    private void need() {
        if (formula == null) {
            throw new IllegalStateException();
        }
    }

    private int moved(UnaryOperator<Part> move) {
        need();
        return settle(formula.stream().map(move).toList());
    }

    private int settle(List<Part> parts) {
        if (shown(parts).length() > 1000) {
            throw new IndexOutOfBoundsException();
        }
        formula = parts;
        return shown(parts).length();
    }

    private static String shown(List<Part> parts) {
        StringBuilder text = new StringBuilder();
        for (Part part : parts) {
            text.append(part.shown());
        }
        return text.toString();
    }

    /** The lines of the sheet afterwards, each with the number it had, -1 for a new one. */
    private static List<Integer> lines(int size, int k, int n, boolean in) {
        if (k < 0 || n < 1 || (long) k + n > size) {
            throw new IllegalArgumentException();
        }
        List<Integer> lines = new ArrayList<>();
        for (int i = 0; i < size; i++) {
            for (int j = 0; in && i == k && j < n; j++) {
                lines.add(-1);
            }
            if (in || i < k || i >= k + n) {
                lines.add(i);
            }
        }
        return lines.subList(0, Math.min(size, lines.size()));
    }
}
