/** What the tests share: calls with texts for bytes, and a count of the answers that are not as due. */
final class Checks {
    interface Call {
        void run();
    }

    interface Answer {
        long get();
    }

    private int asked = 0;
    private int wrong = 0;

    void same(String what, Object got, Object due) {
        asked++;
        if (!got.equals(due)) {
            wrong++;
            System.out.println(what + ": got " + got + ", due is " + due);
        }
    }

    void throwsOnly(String what, Class<? extends RuntimeException> due, Call call) {
        same(what + " throws", thrownBy(call), due.getSimpleName());
    }

    static String thrownBy(Call call) {
        try {
            call.run();
            return "nothing";
        } catch (RuntimeException e) {
            return e.getClass().getSimpleName();
        }
    }

    /** The answer, or throws. and the name of what is thrown. */
    static String answer(Answer call) {
        try {
            return Long.toString(call.get());
        } catch (RuntimeException e) {
            return "throws." + e.getClass().getSimpleName();
        }
    }

    void finish() {
        System.out.println(asked + " answers, " + wrong + " not as due");
        if (wrong != 0) {
            System.exit(1);
        }
    }

    /** Puts the text, each character a byte, behind what the tape has. */
    static void feed(FormulaShaper x, String text) {
        int due = x.count(0) + text.length();
        for (int i = 0; i < text.length(); i += 20) {
            x.feed(four(text, i), four(text, i + 4), four(text, i + 8), four(text, i + 12), four(text, i + 16));
        }
        x.end(due);
    }

    private static int four(String text, int from) {
        int value = 0;
        for (int i = from; i < from + 4; i++) {
            value = value << 8 | (i < text.length() ? text.charAt(i) & 255 : 0);
        }
        return value;
    }

    static FormulaShaper reading(String formula) {
        FormulaShaper x = new FormulaShaper();
        feed(x, formula);
        x.read();
        return x;
    }

    static String shown(FormulaShaper x) {
        int length = x.show();
        StringBuilder text = new StringBuilder();
        for (int i = 0; i < length; i += 8) {
            long eight = x.word(i);
            for (int shift = 56; shift >= 0 && text.length() < length; shift -= 8) {
                text.append((char) (eight >>> shift & 255));
            }
        }
        return text.toString();
    }

    /** What the formula is SHOWN as, or "broken at" and its PLACE. */
    static String readAndShown(String formula) {
        FormulaShaper x = new FormulaShaper();
        feed(x, formula);
        try {
            int length = x.read();
            String text = shown(x);
            return length == text.length() && x.count(2) == -1 ? text : "read() answered " + length + " for " + text;
        } catch (UnsupportedOperationException e) {
            return "broken at " + x.count(2);
        }
    }

    static String references(FormulaShaper x) {
        StringBuilder text = new StringBuilder();
        for (int i = 0; i < x.count(3); i++) {
            text.append(i == 0 ? "" : " ");
            for (int side = 0; side < 4; side++) {
                text.append(side == 0 ? "" : ",").append(x.reference(i, side));
            }
        }
        return text.toString();
    }
}
