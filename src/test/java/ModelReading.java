import java.math.BigDecimal;
import java.util.ArrayDeque;
import java.util.ArrayList;
import java.util.Deque;
import java.util.HashMap;
import java.util.List;
import java.util.Map;
import java.util.regex.Matcher;
import java.util.regex.Pattern;

/**
 * How the model reads a formula: things are found by a regular expression, and an automaton with a stack of
 * what is open tells, thing by thing, if it can stand there.
 */
final class ModelReading {
    private static final Pattern THING = Pattern.compile("(?<number>[0-9]{1,11}(?:\\.[0-9]{1,4})?)"
            + "|(?<text>\"(?:[ !#-~]|\"\")*+\")"
            + "|(?<error>#DIV/0!|#VALUE!|#REF!|#NAME\\?|#NUM!|#N/A|#CIRC!|#CALC!)"
            + "|(?<cell>(\\$?)([A-Z])(\\$?)(80|[1-7][0-9]|[1-9])(?![A-Za-z0-9_]))"
            + "|(?<truth>(?:TRUE|FALSE)(?![A-Z0-9_]))"
            + "|(?<word>[A-Z][A-Z0-9_]{0,11}(?![A-Z0-9_]))"
            + "|(?<mark><>|<=|>=|[=<>&+\\-*/%(){},;:])");
    private static final String[] KINDS = {"number", "text", "error", "cell", "truth", "word"};
    private static final Map<String, int[]> FUNCTIONS = new HashMap<>();

    static {
        functions(1, 1, "ABS INT NOT LEN UPPER ROWS COLUMNS TRANSPOSE SORT UNIQUE");
        functions(2, 2, "ROUND MOD LEFT RIGHT FIND MATCH FILTER IFERROR MAP");
        functions(3, 3, "MID INDEX VLOOKUP SUMIF REDUCE MAKEARRAY");
        functions(4, 4, "SEQUENCE");
        functions(2, 3, "IF");
        functions(2, 9, "CHOOSE");
        functions(1, 8, "SUM MIN MAX COUNT AVERAGE PRODUCT AND OR COUNTA");
    }

    private static void functions(int least, int most, String names) {
        for (String name : names.split(" ")) {
            FUNCTIONS.put(name, new int[] {least, most});
        }
    }

    /** kind: the mark itself, or one of KINDS, "end" or "broken". */
    private record Thing(String kind, String text, int place) {
        boolean is(String kinds) {
            return (" " + kinds + " ").contains(" " + kind + " ");
        }
    }

    private enum Wanted { EQUALS, OPERAND, MORE, COLON, CELL, LITERAL, NUMBER, MORE_LITERALS, WORD, COMMA, NOTHING }

    /** What is open: ( or { by itself, or "call", "LET", "LAMBDA". */
    private static final class Open {
        final String kind;
        final int least;
        final int most;
        int expressions = 0;
        int words = 0;
        boolean wordOpen = false;
        int rowLength = 0;
        int firstRowLength = -1;

        Open(String kind, int least, int most) {
            this.kind = kind;
            this.least = least;
            this.most = most;
        }
    }

    private final String tape;
    private final List<Thing> things = new ArrayList<>();
    private final List<Model.Part> parts = new ArrayList<>();
    private final Deque<Open> stack = new ArrayDeque<>();
    private Wanted wanted = Wanted.EQUALS;
    private boolean justOpened = false;
    private boolean callable = false;
    private String callee = "";
    private int place = -1;

    ModelReading(String tape) {
        this.tape = tape;
        split();
        for (int i = 0; i < things.size() && place == -1; i++) {
            boolean opened = justOpened;
            justOpened = false;
            if (!stands(i, opened)) {
                place = things.get(i).place();
            }
        }
    }

    /** Where it is broken, or -1. */
    int place() {
        return place;
    }

    List<Model.Part> parts() {
        return parts;
    }

    private void split() {
        Matcher matcher = THING.matcher(tape);
        int at = 0;
        while (true) {
            while (at < tape.length() && tape.charAt(at) == ' ') {
                at++;
            }
            if (at == tape.length()) {
                things.add(new Thing("end", "", at));
                return;
            }
            matcher.region(at, tape.length());
            matcher.useTransparentBounds(true);
            if (!matcher.lookingAt() || isTooGreat(matcher.group("number"))) {
                things.add(new Thing("broken", "", at));
                return;
            }
            String kind = matcher.group();
            for (String one : KINDS) {
                kind = matcher.group(one) == null ? kind : one;
            }
            things.add(new Thing(kind, matcher.group(), at));
            addPart(matcher, kind);
            at = matcher.end();
        }
    }

    private static boolean isTooGreat(String number) {
        return number != null && new BigDecimal(number).compareTo(new BigDecimal("90000000000")) > 0;
    }

    private void addPart(Matcher matcher, String kind) {
        if (kind.equals("number")) {
            parts.add(Model.Part.text(new BigDecimal(matcher.group()).stripTrailingZeros().toPlainString()));
        } else if (kind.equals("cell")) {
            Model.Corner corner = new Model.Corner(matcher.group(6).charAt(0) - 'A', !matcher.group(5).isEmpty(),
                    Integer.parseInt(matcher.group(8)) - 1, !matcher.group(7).isEmpty());
            boolean isSecond = parts.size() > 1 && parts.get(parts.size() - 1).text().equals(":")
                    && parts.get(parts.size() - 2).isReference();
            if (isSecond) {
                parts.remove(parts.size() - 1);
                Model.Corner former = parts.remove(parts.size() - 1).first();
                parts.add(Model.Part.cells(List.of(former, corner)));
            } else {
                parts.add(Model.Part.cells(List.of(corner)));
            }
        } else {
            parts.add(Model.Part.text(matcher.group()));
        }
    }

    private Thing at(int i) {
        return things.get(Math.min(i, things.size() - 1));
    }

    private boolean go(Wanted next) {
        wanted = next;
        return true;
    }

    private boolean stands(int i, boolean opened) {
        Thing thing = at(i);
        switch (wanted) {
            case EQUALS:
                return thing.is("=") && go(Wanted.OPERAND);
            case OPERAND:
                return standsAsOperand(thing, i, opened);
            case MORE:
                return standsBehindOperand(thing, i);
            case COLON:
                return thing.is(":") && go(Wanted.CELL);
            case CELL:
                return thing.is("cell") && go(Wanted.MORE);
            case LITERAL:
                if (thing.is("-")) {
                    return go(Wanted.NUMBER);
                }
                return thing.is("number text error truth") && go(Wanted.MORE_LITERALS);
            case NUMBER:
                return thing.is("number") && go(Wanted.MORE_LITERALS);
            case MORE_LITERALS:
                return standsBehindLiteral(thing);
            case WORD:
                return thing.is("word") && go(Wanted.COMMA);
            case COMMA:
                if (!thing.is(",")) {
                    return false;
                }
                return stack.peek().kind.equals("LET") ? go(Wanted.OPERAND) : goBehindWord(i);
            default:
                return false;
        }
    }

    /** In LET or LAMBDA, behind a comma: another WORD if one stands here with a comma behind, or else the last E. */
    private boolean goBehindWord(int i) {
        Open open = stack.peek();
        boolean isWord = open.words < 5 && at(i + 1).is("word") && at(i + 2).is(",");
        open.wordOpen = isWord;
        open.words += isWord ? 1 : 0;
        return go(isWord ? Wanted.WORD : Wanted.OPERAND);
    }

    private boolean standsAsOperand(Thing thing, int i, boolean opened) {
        callable = true;
        callee = "";
        if (thing.is("+ -")) {
            return true;
        }
        if (thing.is("number text error truth")) {
            return go(Wanted.MORE);
        }
        if (thing.is("cell")) {
            return go(at(i + 1).is(":") ? Wanted.COLON : Wanted.MORE);
        }
        if (thing.is("word")) {
            callee = thing.text();
            return go(Wanted.MORE);
        }
        if (thing.is("( {") && stack.size() < 12) {
            stack.push(new Open(thing.text(), 1, 1));
            return go(thing.is("(") ? Wanted.OPERAND : Wanted.LITERAL);
        }
        if (thing.is(")") && opened && stack.peek().least == 0) {
            stack.pop();
            return go(Wanted.MORE);
        }
        return false;
    }

    private boolean standsBehindOperand(Thing thing, int i) {
        if (thing.is("(")) {
            return callable && stack.size() < 12 && opensCall(i);
        }
        callee = "";
        if (thing.is("%")) {
            callable = false;
            return true;
        }
        if (thing.is("= <> <= >= < > & + - * /")) {
            return go(Wanted.OPERAND);
        }
        if (stack.isEmpty()) {
            return thing.is("end");
        }
        if (thing.is(",")) {
            return standsBetween(i);
        }
        return thing.is(")") && closes();
    }

    private boolean opensCall(int i) {
        boolean bindsWords = callee.equals("LET") || callee.equals("LAMBDA");
        int[] counts = bindsWords ? new int[] {1, 1} : FUNCTIONS.getOrDefault(callee, new int[] {0, 9999});
        stack.push(new Open(bindsWords ? callee : "call", counts[0], counts[1]));
        justOpened = true;
        if (callee.equals("LET")) {
            stack.peek().words = 1;
            stack.peek().wordOpen = true;
            return go(Wanted.WORD);
        }
        return bindsWords ? goBehindWord(i) : go(Wanted.OPERAND);
    }

    private boolean standsBetween(int i) {
        Open open = stack.peek();
        if (open.kind.equals("(")) {
            return false;
        }
        if (open.kind.equals("LET") && open.wordOpen) {
            return goBehindWord(i);
        }
        open.expressions++;
        return go(open.expressions == open.most ? Wanted.NOTHING : Wanted.OPERAND);
    }

    private boolean closes() {
        Open open = stack.peek();
        boolean isWordOpen = open.kind.equals("LET") && open.wordOpen;
        if (isWordOpen || open.expressions + 1 < open.least) {
            return false;
        }
        stack.pop();
        callable = true;
        return go(Wanted.MORE);
    }

    private boolean standsBehindLiteral(Thing thing) {
        Open open = stack.peek();
        open.rowLength++;
        boolean isFirstRow = open.firstRowLength == -1;
        if (thing.is(",")) {
            return (isFirstRow || open.rowLength < open.firstRowLength) && go(Wanted.LITERAL);
        }
        if (!isFirstRow && open.rowLength != open.firstRowLength) {
            return false;
        }
        if (thing.is(";")) {
            open.firstRowLength = open.rowLength;
            open.rowLength = 0;
            return go(Wanted.LITERAL);
        }
        if (thing.is("}")) {
            stack.pop();
            callable = true;
            return go(Wanted.MORE);
        }
        return false;
    }
}
