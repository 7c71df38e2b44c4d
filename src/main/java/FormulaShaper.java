import java.util.NoSuchElementException;

/**
 * Formulas of a spreadsheet: read with the place at which they are broken, shown, and with their
 * references moved as they are copied or as rows and columns come and go.
 */
public final class FormulaShaper {
    private static final int ROWS = 80;
    private static final int COLUMNS = 26;
    private static final int TAPE_ROOM = 2000;
    private static final int SHOWN_ROOM = 1000;
    private static final int FED_AT_ONCE = 20;
    private static final int FARTHEST_COPY = 100;
    private static final int SIDES = 4;
    private static final int NOTHING = -1;

    private final Bytes tape;
    private final Bytes result;
    private final Things things;
    private Formula formula;
    // The next FORMULA grows here, so that a call that throws leaves the present one whole.
    private Formula spare;
    private boolean present;
    private int place;

    public FormulaShaper() {
        tape = new Bytes();
        result = new Bytes();
        things = new Things();
        formula = new Formula();
        spare = new Formula();
        present = false;
        place = NOTHING;
    }

    public int feed(int a, int b, int c, int d, int e) throws IndexOutOfBoundsException {
        if (tape.size() + FED_AT_ONCE > TAPE_ROOM) {
            throw new IndexOutOfBoundsException();
        }
        tape.addInt(a);
        tape.addInt(b);
        tape.addInt(c);
        tape.addInt(d);
        tape.addInt(e);
        return tape.size();
    }

    public int end(int n) throws IllegalArgumentException {
        if (n < 0 || n > tape.size()) {
            throw new IllegalArgumentException();
        }
        tape.cut(n);
        return n;
    }

    public int read() throws UnsupportedOperationException, IndexOutOfBoundsException {
        new Splitter(tape, things, spare).split();
        tape.cut(0);
        Grammar grammar = new Grammar(things);
        if (!grammar.takesFormula()) {
            place = grammar.place();
            throw new UnsupportedOperationException();
        }
        place = NOTHING;
        return settle();
    }

    public int copy(int down, int right)
            throws IllegalArgumentException, IllegalStateException, IndexOutOfBoundsException {
        if (isTooFar(down) || isTooFar(right)) {
            throw new IllegalArgumentException();
        }
        return change(new Copying(down, right));
    }

    public int insert(boolean columns, int k, int n)
            throws IllegalArgumentException, IllegalStateException, IndexOutOfBoundsException {
        if (isOffSheet(columns, k, n)) {
            throw new IllegalArgumentException();
        }
        return change(new Shifting(columns, k, n));
    }

    public int remove(boolean columns, int k, int n)
            throws IllegalArgumentException, IllegalStateException, IndexOutOfBoundsException {
        if (isOffSheet(columns, k, n)) {
            throw new IllegalArgumentException();
        }
        return change(new Shifting(columns, k, -n));
    }

    public int show() throws IllegalStateException {
        needFormula();
        result.cut(0);
        formula.writeTo(result);
        return result.size();
    }

    public int reference(int i, int side)
            throws IllegalArgumentException, IllegalStateException, NoSuchElementException {
        if (side < 0 || side >= SIDES) {
            throw new IllegalArgumentException();
        }
        needFormula();
        long found = formula.referenceAt(i);
        if (found == Reference.GONE) {
            throw new NoSuchElementException();
        }
        int span = side % 2 == 0 ? Reference.rows(found) : Reference.columns(found);
        return Span.number(side < 2 ? Span.first(span) : Span.last(span));
    }

    public long word(int i) throws IndexOutOfBoundsException {
        if (i < 0 || i >= result.size()) {
            throw new IndexOutOfBoundsException();
        }
        long eight = 0;
        for (int j = i; j < i + 8; j++) {
            eight = eight << 8 | (j < result.size() ? result.at(j) : 0);
        }
        return eight;
    }

    public int count(int what) throws IllegalArgumentException {
        switch (what) {
            case 0:
                return tape.size();
            case 1:
                return result.size();
            case 2:
                return place;
            case 3:
                return present ? formula.references() : 0;
            default:
                throw new IllegalArgumentException();
        }
    }

    private static boolean isTooFar(int by) {
        return by < -FARTHEST_COPY || by > FARTHEST_COPY;
    }

    private static boolean isOffSheet(boolean columns, int k, int n) {
        int size = columns ? COLUMNS : ROWS;
        // Not k + n > size: the sum of two great numbers would wrap around.
        return k < 0 || n < 1 || n > size - k;
    }

    private void needFormula() {
        if (!present) {
            throw new IllegalStateException();
        }
    }

    private int change(Move move) {
        needFormula();
        spare.takeMoved(formula, move);
        return settle();
    }

    /** Makes what has grown in the spare the FORMULA, if there is room for it. */
    private int settle() {
        if (spare.width() > SHOWN_ROOM) {
            throw new IndexOutOfBoundsException();
        }
        Formula former = formula;
        formula = spare;
        spare = former;
        present = true;
        return formula.width();
    }

    /** THE TAPE or THE RESULT. */
    private static final class Bytes {
        private final byte[] bytes;
        private int size;

        Bytes() {
            bytes = new byte[TAPE_ROOM];
            size = 0;
        }

        int size() {
            return size;
        }

        /** The byte, 0 to 255, that stands at i, or NOTHING. */
        int at(int i) {
            return i >= 0 && i < size ? bytes[i] & 0xFF : NOTHING;
        }

        void add(int one) {
            if (size < bytes.length) {
                bytes[size] = (byte) one;
                size++;
            }
        }

        void addInt(int four) {
            add(four >>> 24);
            add(four >>> 16);
            add(four >>> 8);
            add(four);
        }

        void cut(int n) {
            size = n;
        }

        /** Whether one of the words, with a blank between each two, stands at from with just this length. */
        boolean hasOneOf(String words, int from, int length) {
            int start = 0;
            for (int i = 0; i <= words.length(); i++) {
                if (i == words.length() || words.charAt(i) == ' ') {
                    if (i - start == length && spells(words, start, i, from)) {
                        return true;
                    }
                    start = i + 1;
                }
            }
            return false;
        }

        private boolean spells(String words, int start, int stop, int from) {
            for (int i = start; i < stop; i++) {
                if (at(from + i - start) != words.charAt(i)) {
                    return false;
                }
            }
            return true;
        }
    }

    /**
     * The rows or the columns of a reference as one int: a first end and a last one, each a number from 0
     * with a bit that tells its $. A reference to one cell has the same end twice.
     */
    private static final class Span {
        static final int GONE = -1;
        private static final int END_BITS = 8;
        private static final int END_MASK = 255;

        private Span() {
        }

        static int edge(int number, boolean fixed) {
            return number << 1 | (fixed ? 1 : 0);
        }

        static int number(int edge) {
            return edge >> 1;
        }

        static boolean isFixed(int edge) {
            return (edge & 1) != 0;
        }

        static int first(int span) {
            return span & END_MASK;
        }

        static int last(int span) {
            return span >> END_BITS & END_MASK;
        }

        /** The lesser number comes first; of two equal ones the one that stood first. */
        static int of(int edge, int other) {
            boolean swapped = number(edge) > number(other);
            return swapped ? other | edge << END_BITS : edge | other << END_BITS;
        }

        static int copied(int span, int by, int size) {
            int first = copiedEdge(first(span), by, size);
            int last = copiedEdge(last(span), by, size);
            return first == GONE || last == GONE ? GONE : of(first, last);
        }

        private static int copiedEdge(int edge, int by, int size) {
            if (isFixed(edge)) {
                return edge;
            }
            int number = number(edge) + by;
            return number < 0 || number >= size ? GONE : edge(number, false);
        }

        /** n are put in before k, or, where n is less than 0, -n are taken out from k on. */
        static int shifted(int span, int k, int n, int size) {
            int first = number(first(span));
            int last = number(last(span));
            while (first <= last && goesTo(first, k, n, size) == GONE) {
                first++;
            }
            while (last > first && goesTo(last, k, n, size) == GONE) {
                last--;
            }
            if (first > last) {
                return GONE;
            }
            return of(edge(goesTo(first, k, n, size), isFixed(first(span))),
                    edge(goesTo(last, k, n, size), isFixed(last(span))));
        }

        private static int goesTo(int number, int k, int n, int size) {
            if (number < k) {
                return number;
            }
            int to = number + n;
            return to < k || to >= size ? GONE : to;
        }
    }

    /** A REFERENCE as one long, that no byte equals: its rows, its columns, and if it is CELL : CELL. */
    private static final class Reference {
        static final long GONE = -1;
        private static final int COLUMNS_FROM = 16;
        private static final int SPAN_MASK = 65535;
        private static final long PAIR = 1L << 32;
        private static final long MARK = 1L << 33;

        private Reference() {
        }

        static long of(int rows, int columns, boolean pair) {
            return MARK | (pair ? PAIR : 0) | (long) columns << COLUMNS_FROM | rows;
        }

        static boolean isOne(long piece) {
            return (piece & MARK) != 0;
        }

        static int rows(long reference) {
            return (int) reference & SPAN_MASK;
        }

        static int columns(long reference) {
            return (int) (reference >> COLUMNS_FROM) & SPAN_MASK;
        }

        private static boolean isPair(long reference) {
            return (reference & PAIR) != 0;
        }

        static long moved(long reference, Move move) {
            int rows = move.ofRows(rows(reference));
            int columns = move.ofColumns(columns(reference));
            return rows == Span.GONE || columns == Span.GONE ? GONE : of(rows, columns, isPair(reference));
        }

        static int width(long reference) {
            int rows = rows(reference);
            int columns = columns(reference);
            int first = cornerWidth(Span.first(rows), Span.first(columns));
            return isPair(reference) ? first + 1 + cornerWidth(Span.last(rows), Span.last(columns)) : first;
        }

        private static int cornerWidth(int row, int column) {
            int marks = (Span.isFixed(row) ? 1 : 0) + (Span.isFixed(column) ? 1 : 0);
            return marks + (Span.number(row) + 1 < 10 ? 2 : 3);
        }

        static void write(long reference, Bytes to) {
            int rows = rows(reference);
            int columns = columns(reference);
            writeCorner(Span.first(rows), Span.first(columns), to);
            if (isPair(reference)) {
                to.add(':');
                writeCorner(Span.last(rows), Span.last(columns), to);
            }
        }

        private static void writeCorner(int row, int column, Bytes to) {
            if (Span.isFixed(column)) {
                to.add('$');
            }
            to.add('A' + Span.number(column));
            if (Span.isFixed(row)) {
                to.add('$');
            }
            int named = Span.number(row) + 1;
            if (named >= 10) {
                to.add('0' + named / 10);
            }
            to.add('0' + named % 10);
        }
    }

    /** What becomes of the rows and of the columns of each reference. */
    private abstract static class Move {
        abstract int ofRows(int span);

        abstract int ofColumns(int span);
    }

    private static final class Copying extends Move {
        private final int down;
        private final int right;

        Copying(int down, int right) {
            this.down = down;
            this.right = right;
        }

        int ofRows(int span) {
            return Span.copied(span, down, ROWS);
        }

        int ofColumns(int span) {
            return Span.copied(span, right, COLUMNS);
        }
    }

    /** Rows or columns put in before k, or, where n is less than 0, taken out from k on. */
    private static final class Shifting extends Move {
        private final boolean columns;
        private final int k;
        private final int n;

        Shifting(boolean columns, int k, int n) {
            this.columns = columns;
            this.k = k;
            this.n = n;
        }

        int ofRows(int span) {
            return columns ? span : Span.shifted(span, k, n, ROWS);
        }

        int ofColumns(int span) {
            return columns ? Span.shifted(span, k, n, COLUMNS) : span;
        }
    }

    /** A FORMULA as it is SHOWN: pieces, each a byte or a reference. */
    private static final class Formula {
        private final long[] pieces;
        private int size;
        private int width;
        private int references;

        Formula() {
            pieces = new long[SHOWN_ROOM];
            size = 0;
            width = 0;
            references = 0;
        }

        void clear() {
            size = 0;
            width = 0;
            references = 0;
        }

        /** How many bytes it has SHOWN; its pieces are whole only if these are at most SHOWN_ROOM. */
        int width() {
            return width;
        }

        int references() {
            return references;
        }

        void addByte(int one) {
            add(one, 1);
        }

        void addReference(long reference) {
            references++;
            add(reference, Reference.width(reference));
        }

        // A piece has at least one byte: where one finds no place, the width is beyond the room already.
        private void add(long piece, int wide) {
            if (size < pieces.length) {
                pieces[size] = piece;
                size++;
            }
            width += wide;
        }

        /** Reference i as they stand, or Reference.GONE. */
        long referenceAt(int i) {
            int before = 0;
            for (int at = 0; at < size; at++) {
                if (Reference.isOne(pieces[at])) {
                    if (before == i) {
                        return pieces[at];
                    }
                    before++;
                }
            }
            return Reference.GONE;
        }

        void takeMoved(Formula from, Move move) {
            clear();
            for (int at = 0; at < from.size; at++) {
                long piece = from.pieces[at];
                long moved = Reference.isOne(piece) ? Reference.moved(piece, move) : piece;
                if (moved == Reference.GONE) {
                    addText("#REF!");
                } else if (Reference.isOne(moved)) {
                    addReference(moved);
                } else {
                    add(moved, 1);
                }
            }
        }

        private void addText(String text) {
            for (int i = 0; i < text.length(); i++) {
                addByte(text.charAt(i));
            }
        }

        void writeTo(Bytes bytes) {
            for (int at = 0; at < size; at++) {
                if (Reference.isOne(pieces[at])) {
                    Reference.write(pieces[at], bytes);
                } else {
                    bytes.add((int) pieces[at]);
                }
            }
        }
    }

    /** The FUNCTIONS by how many E they have; ANY is for every other call. */
    private enum Arity {
        ONE(1, 1, "ABS INT NOT LEN UPPER ROWS COLUMNS TRANSPOSE SORT UNIQUE"),
        TWO(2, 2, "ROUND MOD LEFT RIGHT FIND MATCH FILTER IFERROR MAP"),
        THREE(3, 3, "MID INDEX VLOOKUP SUMIF REDUCE MAKEARRAY"),
        FOUR(4, 4, "SEQUENCE"),
        TWO_OR_THREE(2, 3, "IF"),
        TWO_TO_NINE(2, 9, "CHOOSE"),
        ONE_TO_EIGHT(1, 8, "SUM MIN MAX COUNT AVERAGE PRODUCT AND OR COUNTA"),
        LET(1, 1, "LET"),
        LAMBDA(1, 1, "LAMBDA"),
        ANY(0, TAPE_ROOM, "");

        private static final Arity[] ALL = values();

        // Of LET and LAMBDA: how many E stand behind the WORDS and what belongs to them.
        private final int least;
        private final int most;
        private final String names;

        Arity(int least, int most, String names) {
            this.least = least;
            this.most = most;
            this.names = names;
        }

        /** The number of the arity that a WORD has where it is called. */
        static int indexOf(Bytes tape, int from, int length) {
            for (int i = 0; i < ALL.length; i++) {
                if (tape.hasOneOf(ALL[i].names, from, length)) {
                    return i;
                }
            }
            return ALL.length - 1;
        }

        static Arity at(int index) {
            return index >= 0 && index < ALL.length ? ALL[index] : ANY;
        }
    }

    /** The things that THE TAPE is made of: of each its kind and its PLACE. The last one is END or BROKEN. */
    private static final class Things {
        // A mark's kind is its byte, or the first of its two; these are the kinds of all else.
        static final int END = 256;
        static final int BROKEN = 257;
        static final int NUMBER = 258;
        static final int TEXT = 259;
        static final int ERROR = 260;
        static final int TRUTH = 261;
        static final int REFERENCE = 262;
        // From here on: a WORD, by the number of its arity.
        static final int WORD = 263;

        private final int[] kinds;
        private final int[] places;
        private int size;

        Things() {
            kinds = new int[TAPE_ROOM + 1];
            places = new int[TAPE_ROOM + 1];
            size = 0;
        }

        void clear() {
            size = 0;
        }

        void add(int kind, int place) {
            if (size < kinds.length) {
                kinds[size] = kind;
                places[size] = place;
                size++;
            }
        }

        int kindAt(int i) {
            return i >= 0 && i < size ? kinds[i] : END;
        }

        int placeAt(int i) {
            return i >= 0 && i < size ? places[i] : NOTHING;
        }
    }

    /**
     * Splits THE TAPE into things, and writes what is SHOWN of them. A method that takes a thing answers
     * false if it is broken; at is then its PLACE.
     */
    private static final class Splitter {
        private static final int LONGEST_WORD = 12;
        private static final int WHOLE_DIGITS = 11;
        private static final int FRACTION_DIGITS = 4;
        private static final long GREATEST_NUMBER = 90000000000L;
        private static final int ROW_DIGITS = 2;
        private static final int SHORTEST_ERROR = 4;
        private static final int LONGEST_ERROR = 7;
        private static final String ERRORS = "#DIV/0! #VALUE! #REF! #NAME? #NUM! #N/A #CIRC! #CALC!";
        private static final String TRUTHS = "TRUE FALSE";
        private static final String MARKS = "=<>&+-*/%(){},;";

        private final Bytes tape;
        private final Things things;
        private final Formula out;
        private int at;

        Splitter(Bytes tape, Things things, Formula out) {
            this.tape = tape;
            this.things = things;
            this.out = out;
            at = 0;
        }

        void split() {
            things.clear();
            out.clear();
            boolean whole = true;
            for (int turn = 0; turn < TAPE_ROOM && whole && next() != NOTHING; turn++) {
                whole = takesThing();
            }
            things.add(whole ? Things.END : Things.BROKEN, at);
        }

        /** The byte behind the blanks, at which at stands then, or NOTHING at the end. */
        private int next() {
            while (at < tape.size() && tape.at(at) == ' ') {
                at++;
            }
            return tape.at(at);
        }

        private boolean takesThing() {
            int one = next();
            if (isDigit(one)) {
                return takesNumber();
            }
            if (one == '"') {
                return takesText();
            }
            if (one == '#') {
                return takesError();
            }
            if (cellStop(at) != NOTHING) {
                return takesReference();
            }
            return isCapital(one) ? takesName() : takesMark(one);
        }

        private void take(int kind, int stop) {
            things.add(kind, at);
            writeOut(at, stop);
            at = stop;
        }

        private void writeOut(int from, int to) {
            for (int i = from; i < to; i++) {
                out.addByte(tape.at(i));
            }
        }

        private boolean takesMark(int one) {
            if (MARKS.indexOf((char) one) < 0) {
                return false;
            }
            int behind = tape.at(at + 1);
            boolean isLong = one == '<' && (behind == '=' || behind == '>') || one == '>' && behind == '=';
            take(one, isLong ? at + 2 : at + 1);
            return true;
        }

        private boolean takesNumber() {
            int wholeStop = digitsStop(at, WHOLE_DIGITS);
            int stop = wholeStop;
            if (tape.at(wholeStop) == '.' && isDigit(tape.at(wholeStop + 1))) {
                stop = digitsStop(wholeStop + 1, FRACTION_DIGITS);
            }
            int from = at;
            while (from < wholeStop - 1 && tape.at(from) == '0') {
                from++;
            }
            int to = stop;
            while (to > wholeStop && (tape.at(to - 1) == '0' || tape.at(to - 1) == '.')) {
                to--;
            }
            long whole = valueOf(from, wholeStop);
            if (whole > GREATEST_NUMBER || whole == GREATEST_NUMBER && to > wholeStop) {
                return false;
            }
            things.add(Things.NUMBER, at);
            writeOut(from, to);
            at = stop;
            return true;
        }

        private boolean takesText() {
            for (int i = at + 1; i < tape.size(); i++) {
                int one = tape.at(i);
                if (one < 32 || one > 126) {
                    return false;
                }
                if (one == '"' && tape.at(i + 1) != '"') {
                    take(Things.TEXT, i + 1);
                    return true;
                }
                if (one == '"') {
                    i++;
                }
            }
            return false;
        }

        private boolean takesError() {
            for (int length = SHORTEST_ERROR; length <= LONGEST_ERROR; length++) {
                if (tape.hasOneOf(ERRORS, at, length)) {
                    take(Things.ERROR, at + length);
                    return true;
                }
            }
            return false;
        }

        private boolean takesName() {
            int stop = at;
            while (stop < tape.size() && isNamePart(tape.at(stop))) {
                stop++;
            }
            int length = stop - at;
            if (length > LONGEST_WORD) {
                return false;
            }
            boolean isTruth = tape.hasOneOf(TRUTHS, at, length);
            take(isTruth ? Things.TRUTH : Things.WORD + Arity.indexOf(tape, at, length), stop);
            return true;
        }

        /** CELL or CELL : CELL; the first CELL is a thing also if what is behind the : is broken. */
        private boolean takesReference() {
            things.add(Things.REFERENCE, at);
            int stop = cellStop(at);
            int row = rowOf(at, stop);
            int column = columnOf(at);
            at = stop;
            if (next() != ':') {
                out.addReference(Reference.of(Span.of(row, row), Span.of(column, column), false));
                return true;
            }
            at++;
            next();
            int otherStop = cellStop(at);
            if (otherStop == NOTHING) {
                return false;
            }
            int rows = Span.of(row, rowOf(at, otherStop));
            int columns = Span.of(column, columnOf(at));
            out.addReference(Reference.of(rows, columns, true));
            at = otherStop;
            return true;
        }

        /** Behind the CELL that stands at from, or NOTHING. */
        private int cellStop(int from) {
            int letter = behindMark(from);
            if (!isCapital(tape.at(letter))) {
                return NOTHING;
            }
            int digits = behindMark(letter + 1);
            int stop = digitsStop(digits, ROW_DIGITS);
            long row = valueOf(digits, stop);
            boolean isRow = tape.at(digits) != '0' && row >= 1 && row <= ROWS;
            return isRow && !isBarredBehindCell(tape.at(stop)) ? stop : NOTHING;
        }

        private int columnOf(int from) {
            int letter = behindMark(from);
            return Span.edge(tape.at(letter) - 'A', letter > from);
        }

        private int rowOf(int from, int stop) {
            int letter = behindMark(from);
            int digits = behindMark(letter + 1);
            return Span.edge((int) valueOf(digits, stop) - 1, digits > letter + 1);
        }

        private int behindMark(int from) {
            return tape.at(from) == '$' ? from + 1 : from;
        }

        private int digitsStop(int from, int most) {
            int i = from;
            while (i < from + most && isDigit(tape.at(i))) {
                i++;
            }
            return i;
        }

        private long valueOf(int from, int to) {
            long value = 0;
            for (int i = from; i < to; i++) {
                value = value * 10 + tape.at(i) - '0';
            }
            return value;
        }

        private static boolean isDigit(int one) {
            return one >= '0' && one <= '9';
        }

        private static boolean isCapital(int one) {
            return one >= 'A' && one <= 'Z';
        }

        private static boolean isSmallLetter(int one) {
            return one >= 'a' && one <= 'z';
        }

        private static boolean isNamePart(int one) {
            return isCapital(one) || isDigit(one) || one == '_';
        }

        // Only the letters in a CELL have to be capitals: the one that may not stand behind it is any letter.
        private static boolean isBarredBehindCell(int one) {
            return isNamePart(one) || isSmallLetter(one);
        }
    }

    /**
     * Tells if the things are a FORMULA. Each method takes what its name says; if that doesn't stand there
     * it answers false, and at is then the thing that can't stand there. The loops that count turns take a
     * thing or more at each, so that the things end before the count.
     */
    private static final class Grammar {
        private static final int MOST_OPEN = 12;
        private static final int MOST_WORDS = 5;

        private final Things things;
        private int at;
        private int open;

        Grammar(Things things) {
            this.things = things;
            at = 0;
            open = 0;
        }

        boolean takesFormula() {
            return takes('=') && takesExpression() && next() == Things.END;
        }

        int place() {
            return things.placeAt(at);
        }

        private int next() {
            return things.kindAt(at);
        }

        private boolean nextIsOneOf(String marks) {
            return next() < Things.END && marks.indexOf((char) next()) >= 0;
        }

        private boolean nextIsWord() {
            return next() >= Things.WORD;
        }

        private boolean takes(int kind) {
            boolean stands = things.kindAt(at) == kind;
            if (stands) {
                at++;
            }
            return stands;
        }

        private boolean opens(int bracket) {
            if (open >= MOST_OPEN || !takes(bracket)) {
                return false;
            }
            open++;
            return true;
        }

        private boolean closes(int bracket) {
            if (!takes(bracket)) {
                return false;
            }
            open--;
            return true;
        }

        // One loop for E, C, S and T: which operator binds first changes neither PLACE nor what is SHOWN.
        private boolean takesExpression() {
            boolean fine = takesOperand();
            for (int turn = 0; turn < TAPE_ROOM && fine && nextIsOneOf("=<>&+-*/"); turn++) {
                at++;
                fine = takesOperand();
            }
            return fine;
        }

        private boolean takesOperand() {
            skipAll("+-");
            boolean fine = takesAtom();
            for (int turn = 0; turn < TAPE_ROOM && fine && next() == '('; turn++) {
                fine = takesCall(Arity.ANY);
            }
            if (fine) {
                skipAll("%");
            }
            return fine;
        }

        private void skipAll(String marks) {
            for (int turn = 0; turn < TAPE_ROOM && nextIsOneOf(marks); turn++) {
                at++;
            }
        }

        private boolean takesAtom() {
            if (next() == '(') {
                return opens('(') && takesExpression() && closes(')');
            }
            if (next() == '{') {
                return opens('{') && takesRows() && closes('}');
            }
            if (nextIsWord()) {
                return takesName();
            }
            return takes(Things.REFERENCE) || takesConstant();
        }

        private boolean takesConstant() {
            return takes(Things.NUMBER) || takes(Things.TEXT) || takes(Things.ERROR) || takes(Things.TRUTH);
        }

        /** A WORD, or a FUNCTION with its E. */
        private boolean takesName() {
            Arity arity = Arity.at(next() - Things.WORD);
            at++;
            return arity == Arity.ANY || next() != '(' || takesCall(arity);
        }

        private boolean takesCall(Arity arity) {
            if (!opens('(')) {
                return false;
            }
            if (arity == Arity.LET && !takesBindings()) {
                return false;
            }
            if (arity == Arity.LAMBDA) {
                skipParameters();
            }
            return takesList(arity.least, arity.most) && closes(')');
        }

        private boolean takesList(int least, int most) {
            if (least == 0 && next() == ')') {
                return true;
            }
            for (int n = 1; n <= most; n++) {
                if (!takesExpression()) {
                    return false;
                }
                if (!takes(',')) {
                    return n >= least;
                }
            }
            // The comma may stand; what is behind it is the first one too many.
            return false;
        }

        private boolean takesBindings() {
            for (int words = 0; words < MOST_WORDS; words++) {
                if (words > 0 && !isWordWithComma()) {
                    return true;
                }
                if (!takesWord() || !takes(',') || !takesExpression() || !takes(',')) {
                    return false;
                }
            }
            return true;
        }

        private void skipParameters() {
            for (int words = 0; words < MOST_WORDS && isWordWithComma(); words++) {
                at += 2;
            }
        }

        private boolean isWordWithComma() {
            return nextIsWord() && things.kindAt(at + 1) == ',';
        }

        private boolean takesWord() {
            boolean stands = nextIsWord();
            if (stands) {
                at++;
            }
            return stands;
        }

        private boolean takesRows() {
            int firstLength = 0;
            int length = 0;
            for (int turn = 0; turn < TAPE_ROOM; turn++) {
                if (!takesLiteral()) {
                    return false;
                }
                length++;
                boolean mayGoOn = firstLength == 0 || length < firstLength;
                boolean mayEnd = firstLength == 0 || length == firstLength;
                if (mayEnd && takes(';')) {
                    firstLength = length;
                    length = 0;
                } else if (!mayGoOn || !takes(',')) {
                    return mayEnd;
                }
            }
            return false;
        }

        private boolean takesLiteral() {
            return takes('-') ? takes(Things.NUMBER) : takesConstant();
        }
    }
}
