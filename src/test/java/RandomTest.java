import java.util.List;
import java.util.Random;

/**
 * Runs of calls and formulas made at random (always the same ones), beside the model. Formulas are made with
 * what is SHOWN of them known beforehand; many are then spoilt, so that the PLACE is asked for.
 */
public final class RandomTest {
    private static final Checks CHECKS = new Checks();
    private static final Random RANDOM = new Random(20261115);
    private static final String BYTES = "=<>&+-*/%(){},;:.$\"#_ A1BZ80TRUELETSUM(,)9!?/Nz\u0000\u007f\u00ff";
    private static final int[] NUMBERS = {Integer.MIN_VALUE, -101, -100, -1, 0, 1, 2, 3, 4, 7, 8, 9, 25, 26, 27, 79,
        80, 81, 100, 101, 992, 999, 1000, 1980, 1981, 2000, 2001, Integer.MAX_VALUE - 79, Integer.MAX_VALUE};

    // A long formula is fed by this many calls of feed and one of end.
    private static final int MOST_CALLS_AT_ONCE = 52;
    private static int made = 0;

    private final StringBuilder written = new StringBuilder();
    private final StringBuilder shown = new StringBuilder();

    public static void main(String[] args) {
        for (int i = 0; i < 4000; i++) {
            wholeFormula();
        }
        for (int i = 0; i < 20000; i++) {
            spoiltFormula();
        }
        for (int i = 0; i < 400; i++) {
            calls();
        }
        CHECKS.finish();
    }

    private static String formula(int depth) {
        RandomTest maker = new RandomTest();
        maker.same("=");
        maker.expression(depth);
        return maker.written.toString();
    }

    private static void wholeFormula() {
        RandomTest maker = new RandomTest();
        maker.same("=");
        maker.expression(2);
        String text = maker.written.toString();
        if (text.length() <= 2000 && maker.shown.length() <= 1000) {
            CHECKS.same("read " + text, Checks.readAndShown(text), maker.shown.toString());
            CHECKS.same("shown is whole " + text, Checks.readAndShown(maker.shown.toString()), maker.shown.toString());
        }
    }

    /** A whole formula, or one of a few bytes of any kind, with some of its bytes put in, taken out or changed. */
    private static void spoiltFormula() {
        StringBuilder text = new StringBuilder(RANDOM.nextBoolean() ? formula(RANDOM.nextInt(3)) : "=");
        for (int more = RANDOM.nextInt(text.length() == 1 ? 30 : 4); more > 0; more--) {
            int at = RANDOM.nextInt(text.length() + 1);
            int until = Math.min(text.length(), at + RANDOM.nextInt(3));
            String one = String.valueOf(BYTES.charAt(RANDOM.nextInt(BYTES.length())));
            text.replace(at, until, RANDOM.nextInt(4) == 0 ? "" : one);
        }
        if (text.length() > 2000) {
            return;
        }
        FormulaShaper x = new FormulaShaper();
        Model model = new Model();
        feed(x, model, "=A1:$B2+7");
        both("read", x::read, model::read);
        feed(x, model, text.toString());
        both("read " + text, x::read, model::read);
        sameState(text.toString(), x, model);
        both("show after " + text, x::show, model::show);
        sameState("shown after " + text, x, model);
    }

    /** As many calls as an object is promised for, with ordinary and with wrong numbers. */
    private static void calls() {
        FormulaShaper x = new FormulaShaper();
        Model model = new Model();
        boolean isLong = RANDOM.nextInt(3) == 0;
        made = 0;
        while (made + MOST_CALLS_AT_ONCE <= 512) {
            call(x, model, isLong);
        }
        while (made < 512) {
            both("show", x::show, model::show);
        }
    }

    private static void call(FormulaShaper x, Model model, boolean isLong) {
        boolean columns = RANDOM.nextBoolean();
        int a = number();
        int b = number();
        switch (RANDOM.nextInt(13)) {
            case 0, 1 -> feed(x, model, isLong ? longFormula() : formula(RANDOM.nextInt(2)));
            case 2 -> {
                int five = 0x3D41312B + RANDOM.nextInt(9);
                both("feed", () -> x.feed(five, a, b, -1, 0), () -> model.feed(five, a, b, -1, 0));
            }
            case 3 -> both("end " + a, () -> x.end(a), () -> model.end(a));
            case 4, 5 -> both("read", x::read, model::read);
            case 6 -> both("copy " + a + " " + b, () -> x.copy(a, b), () -> model.copy(a, b));
            case 7 -> {
                int down = RANDOM.nextInt(7) - 3;
                int right = RANDOM.nextInt(7) - 3;
                both("copy " + down + " " + right, () -> x.copy(down, right), () -> model.copy(down, right));
            }
            case 8 -> shift(x, model, columns, a, b);
            case 9 -> {
                int k = RANDOM.nextInt(columns ? 26 : 80);
                int n = 1 + RANDOM.nextInt(RANDOM.nextInt(3) == 0 ? (columns ? 26 : 80) - k : 3);
                shift(x, model, columns, k, n);
            }
            case 10 -> both("show", x::show, model::show);
            case 11 -> both("word " + a, () -> x.word(a), () -> model.word(a));
            default -> {
                int side = RANDOM.nextInt(6) - 1;
                both("reference " + a + " " + side, () -> x.reference(a, side), () -> model.reference(a, side));
                both("count " + side, () -> x.count(side), () -> model.count(side));
            }
        }
    }

    private static int number() {
        return RANDOM.nextInt(3) == 0 ? NUMBERS[RANDOM.nextInt(NUMBERS.length)] : RANDOM.nextInt(31) - 3;
    }

    private static void shift(FormulaShaper x, Model model, boolean columns, int k, int n) {
        String call = columns + " " + k + " " + n;
        if (RANDOM.nextBoolean()) {
            both("insert " + call, () -> x.insert(columns, k, n), () -> model.insert(columns, k, n));
        } else {
            both("remove " + call, () -> x.remove(columns, k, n), () -> model.remove(columns, k, n));
        }
    }

    /** One whose length SHOWN is about the greatest that there is room for. */
    private static String longFormula() {
        StringBuilder text = new StringBuilder("=A9");
        int length = 985 + RANDOM.nextInt(20);
        while (text.length() < length) {
            String[] more = {"+A9", "+$A9:B10", "+1", "&\" \"", "%"};
            text.append(more[RANDOM.nextInt(more.length)]);
        }
        return text.toString();
    }

    private static void both(String call, Checks.Answer of, Checks.Answer due) {
        made++;
        CHECKS.same(call, Checks.answer(of), Checks.answer(due));
    }

    private static void feed(FormulaShaper x, Model model, String text) {
        int due = model.count(0) + text.length();
        for (int i = 0; i < text.length(); i += 20) {
            int[] five = new int[5];
            for (int j = 0; j < 20; j++) {
                five[j / 4] = five[j / 4] << 8 | (i + j < text.length() ? text.charAt(i + j) & 255 : 0);
            }
            both("feed", () -> x.feed(five[0], five[1], five[2], five[3], five[4]),
                    () -> model.feed(five[0], five[1], five[2], five[3], five[4]));
        }
        both("end " + due, () -> x.end(due), () -> model.end(due));
    }

    private static void sameState(String what, FormulaShaper x, Model model) {
        for (int i = 0; i < 4; i++) {
            int one = i;
            both(what + ": count " + i, () -> x.count(one), () -> model.count(one));
        }
        for (int i = 0; i < model.count(1); i += 8) {
            int from = i;
            both(what + ": word " + i, () -> x.word(from), () -> model.word(from));
        }
        for (int i = 0; i < 4 * model.count(3); i++) {
            int one = i;
            both(what + ": reference " + i / 4, () -> x.reference(one / 4, one % 4), () -> model.reference(one / 4, one % 4));
        }
    }

    private void add(String text, String due) {
        blanks();
        written.append(text);
        blanks();
        shown.append(due);
    }

    private void same(String text) {
        add(text, text);
    }

    private void blanks() {
        if (RANDOM.nextInt(8) == 0) {
            written.append(" ".repeat(1 + RANDOM.nextInt(2)));
        }
    }

    private static String oneOf(String words) {
        String[] all = words.split(" ");
        return all[RANDOM.nextInt(all.length)];
    }

    private void expression(int depth) {
        for (int more = RANDOM.nextInt(3); more >= 0; more--) {
            for (int signs = RANDOM.nextInt(6); signs > 4; signs--) {
                same(oneOf("+ -"));
            }
            atom(depth);
            if (RANDOM.nextInt(8) == 0) {
                same("%");
            }
            if (more > 0) {
                same(oneOf("= <> <= >= < > & + - * /"));
            }
        }
    }

    private void atom(int depth) {
        int kind = RANDOM.nextInt(depth > 0 ? 12 : 7);
        if (kind < 4) {
            cells();
        } else if (kind == 4) {
            String[] numbers = oneOf("0|0 007|7 1.50|1.5 0.0|0 90000000000.0|90000000000 00.05|0.05").split("\\|");
            add(numbers[0], numbers[1]);
        } else if (kind == 5) {
            same(RANDOM.nextBoolean() ? "\" A1 \"\"\"" : oneOf("TRUE FALSE #N/A #REF! #DIV/0!"));
        } else if (kind == 6) {
            same(oneOf("X A81 A0 SUM TRUEST Z80_ AA1 ABCDEFGHIJKL"));
        } else {
            bracket(depth, kind);
        }
    }

    private void bracket(int depth, int kind) {
        if (kind == 7) {
            for (String thing : oneOf("{|1|} {|-|2|,|TRUE|;|#N/A|,|3|}").split("\\|")) {
                same(thing);
            }
            return;
        }
        String begin = switch (kind) {
            case 8 -> oneOf("LET|(|X|,|1|, LAMBDA|( LAMBDA|(|X|,|SUM|,");
            case 9 -> oneOf("ABS|( SUM|( FOO|(");
            case 10 -> oneOf("ROUND|( IF|( SUM|( FOO|( CHOOSE|(");
            default -> "(";
        };
        for (String thing : begin.split("\\|")) {
            same(thing);
        }
        if (kind == 10) {
            expression(depth - 1);
            same(",");
        }
        expression(depth - 1);
        same(")");
    }

    private static Model.Corner corner() {
        int row = RANDOM.nextInt(3) == 0 ? RANDOM.nextInt(80) : (RANDOM.nextInt(14) + 74) % 80;
        return new Model.Corner(RANDOM.nextInt(26), RANDOM.nextInt(3) == 0, row, RANDOM.nextInt(3) == 0);
    }

    private void cells() {
        Model.Corner a = corner();
        if (RANDOM.nextBoolean()) {
            add(a.text(), a.text());
            return;
        }
        Model.Corner b = corner();
        add(a.text(), "");
        add(":", "");
        add(b.text(), Model.Part.cells(List.of(a, b)).shown());
    }
}
