import java.util.List;
import java.util.NoSuchElementException;
import java.util.function.Consumer;

/**
 * Each call that is refused, in each kind of state: what it throws, also where it has two reasons, and what it
 * leaves as it was. An object on which a call was refused must answer as a twin that never had that call.
 */
public final class RefusedTest {
    private static final Checks CHECKS = new Checks();
    private static final int MAX = Integer.MAX_VALUE;
    private static final int MIN = Integer.MIN_VALUE;
    private static final String FULL = "=" + "A9+".repeat(332) + "A9%";

    private static final Class<IllegalArgumentException> ARGUMENT = IllegalArgumentException.class;
    private static final Class<IllegalStateException> STATE = IllegalStateException.class;
    private static final Class<IndexOutOfBoundsException> ROOM = IndexOutOfBoundsException.class;
    private static final Class<NoSuchElementException> ELEMENT = NoSuchElementException.class;
    private static final Class<UnsupportedOperationException> SYNTAX = UnsupportedOperationException.class;

    /** A state is the calls that lead to it from a new object. */
    private record State(String name, Consumer<FormulaShaper> calls) {
        FormulaShaper make() {
            FormulaShaper x = new FormulaShaper();
            calls.accept(x);
            return x;
        }
    }

    private static final List<State> WITHOUT_FORMULA = List.of(
            new State("new", x -> { }),
            new State("a formula on the tape", x -> Checks.feed(x, "=A1+B2")),
            new State("a full tape", x -> Checks.feed(x, "=A1+" + " ".repeat(1995) + "2")),
            new State("a tape of 1981", x -> Checks.feed(x, "=A1+" + " ".repeat(1976) + "2")),
            new State("a broken read", x -> broken(x, "=A1+)")),
            new State("a read without room", x -> withoutRoom(x)));

    private static final List<State> WITH_FORMULA = List.of(
            new State("a formula", x -> read(x, "=B2+C3:D4")),
            new State("a formula shown", x -> {
                read(x, "=B2+C3:D4");
                x.show();
            }),
            new State("a formula, another one shown, a place, a tape", x -> {
                read(x, "=C3+D4:E5");
                x.show();
                x.copy(-1, -1);
                broken(x, "=1+)");
                Checks.feed(x, "=$Z$80%");
            }),
            new State("a formula, a read without room, a full tape", x -> {
                read(x, "=B2+C3:D4");
                withoutRoom(x);
                Checks.feed(x, "=7" + "%".repeat(1998));
            }));

    private static final List<State> WITH_FULL_FORMULA = List.of(
            new State("a full formula", x -> read(x, FULL)),
            new State("a full formula shown, a place, a full tape", x -> {
                read(x, FULL);
                x.show();
                broken(x, "=");
                Checks.feed(x, "=A1+" + " ".repeat(1995) + "2");
            }));

    public static void main(String[] args) {
        for (State state : WITHOUT_FORMULA) {
            wrongNumbers(state);
            noFormula(state);
        }
        for (State state : WITH_FORMULA) {
            wrongNumbers(state);
            noReference(state, 2);
        }
        for (State state : WITH_FULL_FORMULA) {
            wrongNumbers(state);
            noReference(state, 333);
            noRoomForMoves(state);
        }
        for (List<State> states : List.of(WITHOUT_FORMULA, WITH_FORMULA, WITH_FULL_FORMULA)) {
            for (State state : states) {
                fullTape(state);
                refusedReads(state);
            }
        }
        twoReasons();
        CHECKS.finish();
    }

    private static void read(FormulaShaper x, String formula) {
        Checks.feed(x, formula);
        x.read();
    }

    private static void broken(FormulaShaper x, String formula) {
        CHECKS.throwsOnly("read " + formula, SYNTAX, () -> read(x, formula));
    }

    private static void withoutRoom(FormulaShaper x) {
        CHECKS.throwsOnly("read 1001 bytes", ROOM, () -> read(x, "=" + "1".repeat(5) + "%".repeat(995)));
    }

    private static void refused(State state, String call, Class<? extends RuntimeException> due,
            Consumer<FormulaShaper> on) {
        FormulaShaper x = state.make();
        String what = state.name() + ": " + call;
        CHECKS.throwsOnly(what, due, () -> on.accept(x));
        CHECKS.throwsOnly(what + " again", due, () -> on.accept(x));
        CHECKS.same(what + " changes nothing", seen(x) + tapeSeen(x), twinSeen(state));
    }

    private static String twinSeen(State state) {
        FormulaShaper twin = state.make();
        return seen(twin) + tapeSeen(twin);
    }

    private static String seen(FormulaShaper x) {
        StringBuilder seen = new StringBuilder("tape " + x.count(0) + ", place " + x.count(2) + ", ");
        return seen.append(seenBeside(x)).toString();
    }

    /** All that can be seen beside the tape and the place; behind it the result is the formula. */
    private static String seenBeside(FormulaShaper x) {
        StringBuilder seen = new StringBuilder("result " + x.count(1) + ": ");
        for (int i = 0; i < x.count(1); i += 8) {
            seen.append(Long.toHexString(x.word(i))).append(' ');
        }
        seen.append("references ").append(x.count(3));
        for (int i = 0; i < Math.min(3, x.count(3)); i++) {
            for (int side = 0; side < 4; side++) {
                seen.append(' ').append(x.reference(i, side));
            }
        }
        String shown = Checks.thrownBy(() -> x.show());
        return seen.append(" formula ").append(shown.equals("nothing") ? Checks.shown(x) : shown).toString();
    }

    /** What the tape holds can be seen only by reading it. */
    private static String tapeSeen(FormulaShaper x) {
        String answer = Checks.answer(() -> x.read());
        return ", tape: " + answer + " place " + x.count(2) + " " + seenBeside(x);
    }

    private static void wrongNumbers(State state) {
        int tape = state.make().count(0);
        for (int n : new int[] {-1, tape + 1, 2001, MIN, MAX}) {
            refused(state, "end(" + n + ")", ARGUMENT, x -> x.end(n));
        }
        for (int what : new int[] {-1, 4, MIN, MAX}) {
            refused(state, "count(" + what + ")", ARGUMENT, x -> x.count(what));
            refused(state, "reference(0, " + what + ")", ARGUMENT, x -> x.reference(0, what));
            refused(state, "reference(-1, " + what + ")", ARGUMENT, x -> x.reference(-1, what));
            refused(state, "reference(2000, " + what + ")", ARGUMENT, x -> x.reference(2000, what));
        }
        for (int by : new int[] {-101, 101, MIN, MAX}) {
            refused(state, "copy(" + by + ", 0)", ARGUMENT, x -> x.copy(by, 0));
            refused(state, "copy(0, " + by + ")", ARGUMENT, x -> x.copy(0, by));
            refused(state, "copy(1, " + by + ")", ARGUMENT, x -> x.copy(1, by));
            refused(state, "copy(" + by + ", " + by + ")", ARGUMENT, x -> x.copy(by, by));
        }
        wrongShifts(state, false, 80);
        wrongShifts(state, true, 26);
        int result = state.make().count(1);
        for (int i : new int[] {-1, result, result + 1, 1000, 2000, MIN, MAX, MAX - 7}) {
            refused(state, "word(" + i + ")", ROOM, x -> x.word(i));
        }
    }

    private static void wrongShifts(State state, boolean columns, int size) {
        int[][] all = {{-1, 1}, {-1, size}, {0, 0}, {0, -1}, {0, size + 1}, {1, size}, {size - 1, 2}, {size, 1},
            {size, 0}, {size + 1, -1}, {MAX, 1}, {1, MAX}, {MAX, MAX}, {MIN, 1}, {0, MIN}, {MIN, MIN}, {MIN, MAX},
            {MAX, MIN}};
        for (int[] kn : all) {
            String call = "(" + columns + ", " + kn[0] + ", " + kn[1] + ")";
            refused(state, "insert" + call, ARGUMENT, x -> x.insert(columns, kn[0], kn[1]));
            refused(state, "remove" + call, ARGUMENT, x -> x.remove(columns, kn[0], kn[1]));
        }
    }

    private static void noFormula(State state) {
        refused(state, "show()", STATE, x -> x.show());
        refused(state, "copy(0, 0)", STATE, x -> x.copy(0, 0));
        refused(state, "copy(-100, 100)", STATE, x -> x.copy(-100, 100));
        refused(state, "copy(100, -100)", STATE, x -> x.copy(100, -100));
        for (boolean columns : new boolean[] {false, true}) {
            int size = columns ? 26 : 80;
            for (int[] kn : new int[][] {{0, 1}, {0, size}, {size - 1, 1}}) {
                String call = "(" + columns + ", " + kn[0] + ", " + kn[1] + ")";
                refused(state, "insert" + call, STATE, x -> x.insert(columns, kn[0], kn[1]));
                refused(state, "remove" + call, STATE, x -> x.remove(columns, kn[0], kn[1]));
            }
        }
        for (int side = 0; side < 4; side++) {
            int one = side;
            refused(state, "reference(0, " + side + ")", STATE, x -> x.reference(0, one));
            refused(state, "reference(-1, " + side + ")", STATE, x -> x.reference(-1, one));
        }
    }

    private static void noReference(State state, int references) {
        for (int i : new int[] {-1, references, references + 1, 1000, MIN, MAX}) {
            refused(state, "reference(" + i + ", 0)", ELEMENT, x -> x.reference(i, 0));
            refused(state, "reference(" + i + ", 3)", ELEMENT, x -> x.reference(i, 3));
        }
        FormulaShaper x = state.make();
        CHECKS.same(state.name() + ": references", x.count(3), references);
        CHECKS.same(state.name() + ": the first one", x.reference(0, 0), references == 2 ? 1 : 8);
        CHECKS.same(state.name() + ": the last one", x.reference(references - 1, 3), references == 2 ? 3 : 0);
    }

    private static void noRoomForMoves(State state) {
        refused(state, "copy(1, 0)", ROOM, x -> x.copy(1, 0));
        refused(state, "copy(-9, 0)", ROOM, x -> x.copy(-9, 0));
        refused(state, "copy(100, 100)", ROOM, x -> x.copy(100, 100));
        refused(state, "insert(false, 8, 1)", ROOM, x -> x.insert(false, 8, 1));
        refused(state, "insert(true, 0, 26)", ROOM, x -> x.insert(true, 0, 26));
        refused(state, "remove(false, 8, 1)", ROOM, x -> x.remove(false, 8, 1));
        refused(state, "remove(true, 0, 1)", ROOM, x -> x.remove(true, 0, 1));
        FormulaShaper x = state.make();
        CHECKS.same(state.name() + ": a move for which there is room", x.copy(-8, 25), 1000);
        CHECKS.same(state.name() + ": what it makes", Checks.shown(x), FULL.replace("A9", "Z1"));
    }

    private static void fullTape(State state) {
        if (state.make().count(0) > 1980) {
            refused(state, "feed", ROOM, x -> x.feed(0x3D312020, 1, 2, 3, 4));
            refused(state, "feed zeros", ROOM, x -> x.feed(0, 0, 0, 0, 0));
        }
    }

    /** A read that throws leaves the tape empty and tells the place; all else stays. */
    private static void refusedReads(State state) {
        refusedRead(state, "", SYNTAX, 0);
        refusedRead(state, "=", SYNTAX, 1);
        refusedRead(state, "=A1+B2)", SYNTAX, 6);
        refusedRead(state, "=" + "A1+".repeat(666), SYNTAX, 1999);
        refusedRead(state, "=" + "1".repeat(5) + "%".repeat(995), ROOM, -1);
        refusedRead(state, "=A1" + "+Z80".repeat(499), ROOM, -1);
    }

    private static void refusedRead(State state, String formula, Class<? extends RuntimeException> due, int place) {
        FormulaShaper x = state.make();
        x.end(0);
        Checks.feed(x, formula);
        String what = state.name() + ": read of " + formula.length() + " bytes";
        CHECKS.throwsOnly(what, due, () -> x.read());
        CHECKS.same(what + " empties the tape", x.count(0), 0);
        CHECKS.same(what + " place", x.count(2), place);
        CHECKS.same(what + " changes nothing else", seenBeside(x), seenBeside(state.make()));
        CHECKS.same(what + " lets another one in", x.feed(0x3D372020, 0x20202020, 0x20202020, 0x20202020, 0x20202020), 20);
        CHECKS.same(what + " which is read", x.read(), 2);
        CHECKS.same(what + " which tells no place", x.count(2), -1);
        CHECKS.same(what + " which is shown", Checks.shown(x), "=7");
    }

    /** A number out of range goes before no FORMULA and before no room; broken SYNTAX before no room. */
    private static void twoReasons() {
        FormulaShaper none = new FormulaShaper();
        CHECKS.throwsOnly("copy: number, no formula", ARGUMENT, () -> none.copy(101, 0));
        CHECKS.throwsOnly("insert: number, no formula", ARGUMENT, () -> none.insert(false, 80, 1));
        CHECKS.throwsOnly("remove: number, no formula", ARGUMENT, () -> none.remove(true, 0, 27));
        CHECKS.throwsOnly("reference: side, no formula, no such one", ARGUMENT, () -> none.reference(5, 4));
        CHECKS.throwsOnly("reference: no formula, no such one", STATE, () -> none.reference(5, 3));
        FormulaShaper full = Checks.reading(FULL);
        CHECKS.throwsOnly("copy: number, no room", ARGUMENT, () -> full.copy(1, -101));
        CHECKS.throwsOnly("insert: number, no room", ARGUMENT, () -> full.insert(false, 0, 81));
        CHECKS.throwsOnly("remove: number, no room", ARGUMENT, () -> full.remove(true, 0, 27));
        CHECKS.throwsOnly("reference: side, no such one", ARGUMENT, () -> full.reference(333, -1));
        Checks.feed(full, "=" + "1+".repeat(999));
        CHECKS.throwsOnly("read: broken, no room", SYNTAX, () -> full.read());
        CHECKS.same("read: broken, no room: the place", full.count(2), 1999);
    }
}
