/**
 * The edges that the document's terms name, each looked at from both sides: how long, how great, how deep and
 * how many, and which bytes.
 */
public final class EdgeTest {
    private static final Checks CHECKS = new Checks();
    private static final String CAPITALS = "ABCDEFGHIJKLMNOPQRSTUVWXYZ";
    private static final String DIGITS = "0123456789";

    public static void main(String[] args) {
        digits();
        greatestNumber();
        shortestNumbers();
        textBytes();
        quotes();
        wordLengths();
        firstBytes();
        bytesBehindWord();
        rows();
        columns();
        truths();
        blanks();
        open();
        rowLengths();
        anyCall();
        letWords();
        lambdaWords();
        ends();
        shownRoom();
        tapeRoom();
        CHECKS.finish();
    }

    private static void whole(String formula) {
        shownAs(formula, formula);
    }

    private static void shownAs(String formula, String due) {
        CHECKS.same("<" + formula + ">", Checks.readAndShown(formula), due);
    }

    private static void broken(String formula, int place) {
        CHECKS.same("<" + formula + ">", Checks.readAndShown(formula), "broken at " + place);
    }

    /** NUMBER: 1 to 11 digits [. 1 to 4 digits]; a 12th, or a fifth behind the point, is another thing. */
    private static void digits() {
        for (int before = 1; before <= 14; before++) {
            for (int behind = 1; behind <= 7; behind++) {
                String number = "1".repeat(before) + "." + "1".repeat(behind);
                if (before <= 11 && behind <= 4) {
                    whole("=" + number);
                    whole("={" + number + "}");
                } else {
                    int place = before > 11 ? 12 : 2 + before + 4;
                    broken("=" + number, place);
                    broken("={" + number + "}", place + 1);
                }
            }
            if (before <= 11) {
                whole("=" + "1".repeat(before));
                broken("=" + "1".repeat(before) + ".", 1 + before);
                broken("=" + "1".repeat(before) + ".+1", 1 + before);
            } else {
                broken("=" + "1".repeat(before), 12);
                broken("=" + "0".repeat(before), 12);
            }
        }
        broken("=.1", 1);
        broken("={.1}", 2);
    }

    /** At most 90000000000; a greater one is broken at its first digit. */
    private static void greatestNumber() {
        whole("=89999999999.9999");
        whole("=90000000000");
        shownAs("=90000000000.0", "=90000000000");
        shownAs("=90000000000.0000", "=90000000000");
        broken("=90000000000.1", 1);
        broken("=90000000000.0001", 1);
        broken("=90000000000.00001", 17);
        broken("=90000000001", 1);
        broken("=90000000000.0001+)", 1);
        broken("=99999999999.9999", 1);
        broken("=1+ 90000000001", 4);
        broken("=-90000000001", 2);
        whole("={-90000000000}");
        broken("={-90000000001}", 3);
        broken("={1,90000000000.0001}", 4);
        broken("=900000000000", 12);
        broken("=900000000010", 1);
        broken("=999999999990", 1);
    }

    private static void shortestNumbers() {
        for (String[] pair : new String[][] {{"0", "0"}, {"00", "0"}, {"00000000000", "0"}, {"0.0", "0"}, {"0.0000", "0"},
                {"00000000000.0000", "0"}, {"01", "1"}, {"10", "10"}, {"010", "10"}, {"00000000001", "1"}, {"1.0", "1"},
                {"1.5000", "1.5"}, {"1.0500", "1.05"}, {"1.0005", "1.0005"}, {"0.1", "0.1"}, {"000.1000", "0.1"},
                {"10.0", "10"}, {"100.10", "100.1"}, {"10000000000", "10000000000"}, {"00000000000.0001", "0.0001"}}) {
            shownAs("=" + pair[0], "=" + pair[1]);
            shownAs("={-" + pair[0] + "," + pair[0] + "}", "={-" + pair[1] + "," + pair[1] + "}");
            shownAs("=\"" + pair[0] + "\"", "=\"" + pair[0] + "\"");
        }
    }

    /** "TEXT": bytes 32 .. 126. */
    private static void textBytes() {
        for (char one = 0; one < 256; one++) {
            String text = one == '"' ? "\"\"" : String.valueOf(one);
            for (String formula : new String[] {"=\"" + text + "\"", "=\"a" + text + text + "b\"", "={\"" + text + "\"}"}) {
                if (one >= 32 && one <= 126) {
                    whole(formula);
                } else {
                    broken(formula, formula.indexOf('"'));
                }
            }
        }
    }

    /** "" for ": as many quotes as there are, they end a TEXT only if they are even. */
    private static void quotes() {
        for (int n = 1; n <= 9; n++) {
            if (n % 2 == 0) {
                whole("=" + "\"".repeat(n));
                broken("=" + "\"".repeat(n) + " \"\"", n + 2);
            } else {
                broken("=" + "\"".repeat(n), 1);
                broken("=1&" + "\"".repeat(n) + "+1", 3);
            }
        }
        whole("=\"" + "a".repeat(997) + "\"");
        whole("=\"" + " ".repeat(997) + "\"");
    }

    /** WORD: at most 12 in all; a longer one is broken at its first letter. */
    private static void wordLengths() {
        for (int length = 1; length <= 20; length++) {
            for (String part : "X 0 9 _".split(" ")) {
                String word = "X" + part.repeat(length - 1);
                boolean isCell = word.equals("X9");
                if (length <= 12) {
                    whole("=" + word);
                    whole("=" + word + "(1)");
                    if (!isCell) {
                        whole("=LET(" + word + ",1,2)");
                        whole("=LAMBDA(" + word + ",1)");
                    }
                } else {
                    broken("=" + word, 1);
                    broken("=" + word + "(1)", 1);
                    broken("=1+ " + word, 4);
                    broken("=LET(" + word + ",1,2)", 5);
                    broken("=LAMBDA(" + word + ",1)", 8);
                }
            }
        }
        broken("=ABCDEFGHIJKLm", 13);
        broken("=ABCDEFGHIJKL.", 13);
        broken("=ABCDEFGHIJKL M", 14);
        broken("=TRUETRUETRUET", 1);
    }

    /** Which bytes an E begins with: a letter is a capital one. */
    private static void firstBytes() {
        for (char one = 0; one < 256; one++) {
            if (CAPITALS.indexOf(one) >= 0 || DIGITS.indexOf(one) >= 0) {
                whole("=" + one);
                whole("=(" + one + ")");
            } else if (" +-({".indexOf(one) >= 0) {
                broken("=" + one, 2);
            } else {
                broken("=" + one, 1);
                broken("=1+" + one, 3);
                broken("=" + one + "1", 1);
                broken("=" + one + "A", 1);
            }
        }
    }

    private static void bytesBehindWord() {
        for (char one = 0; one < 256; one++) {
            String formula = "=XX" + one;
            if (CAPITALS.indexOf(one) >= 0 || DIGITS.indexOf(one) >= 0 || "_%".indexOf(one) >= 0) {
                whole(formula);
            } else if (one == ' ') {
                shownAs(formula, "=XX");
            } else if ("=<>&+-*/(".indexOf(one) >= 0) {
                broken(formula, 4);
            } else {
                broken(formula, 3);
            }
        }
    }

    /** CELLS have rows 1 .. 80, no 0 first. */
    private static void rows() {
        for (int row = 0; row <= 1000; row++) {
            boolean isRow = row >= 1 && row <= 80;
            for (String column : "A Z".split(" ")) {
                CHECKS.same("references of " + column + row, Checks.reading("=" + column + row).count(3), isRow ? 1 : 0);
                if (isRow) {
                    whole("=$" + column + row + "+" + column + "$" + row + "+$" + column + "$" + row);
                    whole("=A1:" + column + row);
                } else {
                    broken("=$" + column + row, 1);
                    broken("=" + column + "$" + row, 2);
                    broken("=$" + column + "$" + row, 1);
                    broken("=A1:" + column + row, 4);
                    broken("=A1:" + column + "$" + row, 4);
                    broken("=" + column + row + ":A1", 2 + String.valueOf(row).length());
                }
                broken("=$" + column + "0" + row, 1);
                broken("=A1:" + column + "0" + row, 4);
                CHECKS.same("references of " + column + "0" + row, Checks.reading("=" + column + "0" + row).count(3), 0);
            }
        }
    }

    /** CELLS have columns A .. Z. */
    private static void columns() {
        for (char one = 0; one < 256; one++) {
            boolean isColumn = CAPITALS.indexOf(one) >= 0;
            if (isColumn) {
                FormulaShaper x = Checks.reading("=" + one + "1");
                CHECKS.same("column of " + one, Checks.references(x), "0," + (one - 'A') + ",0," + (one - 'A'));
                whole("=$" + one + "1");
                broken("=$" + one + one + "1", 1);
            } else {
                broken("=$" + one + "1", 1);
                broken("=A1:" + one + "1", one == ' ' ? 5 : 4);
            }
        }
    }

    /** A WORD is no TRUE, FALSE: only the whole name is one of these. */
    private static void truths() {
        for (String truth : "TRUE FALSE".split(" ")) {
            whole("={" + truth + "}");
            broken("=LET(" + truth + ",1,2)", 5);
            broken("=LAMBDA(" + truth + ",1)", 9 + truth.length());
            for (String word : new String[] {truth + "S", truth + "1", truth + "_", truth.substring(1), "X" + truth}) {
                whole("=LET(" + word + ",1,2)");
                broken("={" + word + "}", 2);
            }
            broken("=" + truth.toLowerCase(), 1);
            broken("=" + truth.charAt(0) + truth.substring(1).toLowerCase(), 2);
            broken("=" + truth + " " + truth, 2 + truth.length());
        }
    }

    /** Blanks (32) may stand before, between and behind the things, not within; no other byte is one. */
    private static void blanks() {
        shownAs("   =   LET   (   X   ,   -   1.50   %   ,   A1   :   $B$2   <>   {   -   1   ;   \" \"   }   )   ",
                "=LET(X,-1.5%,A1:$B$2<>{-1;\" \"})");
        for (String within : new String[] {"1 1", "1 .5", "$ A1", "$A $1", "$A$ 1", "AB C", "TRUE FALSE", "#N /A", "#REF !",
                "< >", "< =", "> ="}) {
            String found = Checks.readAndShown("=1+" + within + "+1");
            CHECKS.same("<=1+" + within + "> is broken", found.startsWith("broken at "), true);
        }
        for (char one = 0; one < 256; one++) {
            if (one == ' ') {
                shownAs(one + "=1", "=1");
            } else {
                broken(one + "=1", one == '=' ? 1 : 0);
            }
        }
        for (char one : new char[] {0, 9, 10, 13, 31, 33, 160}) {
            broken("=1" + one, 2);
            broken("=" + one + "1", 1);
            broken("=1 " + one, 3);
        }
    }

    /** At most 12 ( and { are open at a time. */
    private static void open() {
        for (int depth = 1; depth <= 15; depth++) {
            for (String begin : new String[] {"(", "F(", "ABS(", "LET(X,1,", "LAMBDA(", "1(", "IF(1,", "-("}) {
                String formula = "=" + begin.repeat(depth) + "1" + ")".repeat(depth);
                String withTable = "=" + begin.repeat(depth - 1) + "{1}" + ")".repeat(depth - 1);
                if (depth <= 12) {
                    whole(formula);
                    whole(withTable);
                } else {
                    broken(formula, 1 + 12 * begin.length() + begin.indexOf('('));
                    broken(withTable, 1 + 12 * begin.length() + (depth == 13 ? 0 : begin.indexOf('(')));
                }
            }
        }
        String open11 = "=" + "(".repeat(11);
        String close11 = ")".repeat(11);
        whole(open11 + "(1)+(1)+{1}+F(1)" + close11);
        broken(open11 + "(1)+((1))" + close11, 17);
        broken(open11 + "(1)+F({1})" + close11, 18);
        whole(open11 + "{1}(1)(2)" + close11);
    }

    /** ROWS of { } are as long as the first; another length: the , ; or } by which it is so. */
    private static void rowLengths() {
        for (int first = 1; first <= 5; first++) {
            for (int second = 1; second <= 7; second++) {
                String before = "={" + row(first) + ";";
                String table = before + row(second);
                if (first == second) {
                    whole(table + "}");
                    whole(table + ";" + row(first) + "}");
                    broken(table + ";", table.length() + 1);
                    broken(table + ";" + row(first) + ",1}", table.length() + 1 + row(first).length());
                } else if (second < first) {
                    broken(table + "}", table.length());
                    broken(table + ";" + row(first) + "}", table.length());
                    broken(table, table.length());
                } else {
                    broken(table + "}", before.length() + row(first).length());
                    broken(table + ";1}", before.length() + row(first).length());
                }
            }
        }
        whole("={" + row(499) + "}");
        whole("={1" + ";1".repeat(498) + "}");
        broken("={}", 2);
        broken("={;}", 2);
        broken("={,}", 2);
        broken("={1;;1}", 4);
    }

    private static String row(int length) {
        return "1" + ",1".repeat(length - 1);
    }

    /** P: A {( [E {, E}] )}: what is no FUNCTION has as many E as there are, or none. */
    private static void anyCall() {
        for (String called : new String[] {"FOO", "A1", "A1:B2", "1", "\"a\"", "TRUE", "#N/A", "(1)", "{1}", "ABS(1)", "(SUM)",
            "SUMS", "LETS", "A81"}) {
            whole("=" + called + "()");
            broken("=" + called + "(,)", called.length() + 2);
            for (int n = 1; n <= 12; n++) {
                whole("=" + called + "(" + row(n) + ")");
                broken("=" + called + "(" + row(n) + ",)", called.length() + 2 + 2 * n);
            }
        }
        whole("=FOO(" + row(497) + ")");
        shownAs("=FOO (1) ( ) (2 , 3)", "=FOO(1)()(2,3)");
        broken("=ABS ()", 6);
        broken("=ABS  (1,2)", 9);
    }

    /** LET: 1 to 5 WORDS, each with an E, and one more E. */
    private static void letWords() {
        broken("=LET()", 5);
        broken("=LET(1)", 5);
        for (int words = 1; words <= 8; words++) {
            StringBuilder before = new StringBuilder("=LET(");
            for (int i = 0; i < words; i++) {
                before.append(CAPITALS.charAt(i)).append(",1,");
            }
            String formula = before + "2)";
            if (words <= 5) {
                whole(formula);
                whole(before + "X)");
                broken(before + ")", before.length());
                broken(before.substring(0, before.length() - 1) + ")", before.length() - 1);
                broken(before + "2,3)", before.length() + 2);
            } else {
                // The sixth WORD is the E at the end; the E behind its comma is the first one too many.
                broken(formula, 5 + 5 * 4 + 2);
            }
        }
    }

    /** LAMBDA: 0 to 5 WORDS and an E. */
    private static void lambdaWords() {
        broken("=LAMBDA()", 8);
        whole("=LAMBDA(1)");
        whole("=LAMBDA(X)");
        for (int words = 1; words <= 8; words++) {
            StringBuilder before = new StringBuilder("=LAMBDA(");
            for (int i = 0; i < words; i++) {
                before.append(CAPITALS.charAt(i)).append(",");
            }
            if (words <= 5) {
                whole(before + "1)");
                whole(before + "X)");
                broken(before + ")", before.length());
                broken(before + "1,2)", before.length() + 2);
            } else {
                broken(before + "1)", 8 + 2 * 6);
            }
        }
    }

    /** PLACE: its length at the end, with the blanks there. */
    private static void ends() {
        for (String begun : new String[] {"", "=", "=1+", "=-", "=(", "=(1", "=F(", "=F(1,", "=ABS(", "=ABS(1", "=ABS(1,", "={",
            "={-", "={1", "={1,", "={1;", "={1,2;3", "=A1:", "=LET(", "=LET(X", "=LET(X,", "=LET(X,1", "=LET(X,1,",
            "=LAMBDA(", "=LAMBDA(X,", "=1<>"}) {
            for (int blanks = 0; blanks <= 3; blanks++) {
                broken(begun + " ".repeat(blanks), begun.length() + blanks);
            }
        }
        for (String tooLittle : new String[] {"=ROUND(1", "=IF(1", "=SEQUENCE(1,2,3"}) {
            broken(tooLittle, tooLittle.length());
            broken(tooLittle + ")", tooLittle.length());
            broken(tooLittle + " )", tooLittle.length() + 1);
        }
    }

    /** SHOWN at most 1000 bytes, whatever it has on the tape. */
    private static void shownRoom() {
        for (int shown = 997; shown <= 1003; shown++) {
            roomFor("=1" + "%".repeat(shown - 2), shown);
            roomFor("=\"" + "x".repeat(shown - 3) + "\"", shown);
            roomFor("=A1" + "%".repeat(shown - 3), shown);
            roomFor("= $A$1 : $B$10 " + "%".repeat(shown - 11), shown);
            roomFor("=" + " ".repeat(990) + "01.0" + "%".repeat(shown - 2), shown);
            roomFor("=" + "+".repeat(shown - 6) + "#REF!", shown);
        }
    }

    private static void roomFor(String formula, int shown) {
        FormulaShaper x = new FormulaShaper();
        Checks.feed(x, formula);
        String due = shown <= 1000 ? String.valueOf(shown) : "throws.IndexOutOfBoundsException";
        CHECKS.same(shown + " bytes: " + formula, Checks.answer(() -> x.read()), due);
        CHECKS.same("place of " + shown + " bytes", x.count(2), -1);
        CHECKS.same("tape behind " + shown + " bytes", x.count(0), 0);
        CHECKS.same("show of " + shown + " bytes", Checks.answer(() -> x.show()),
                shown <= 1000 ? due : "throws.IllegalStateException");
    }

    /** A tape of 2000 bytes is read to its last one. */
    private static void tapeRoom() {
        shownAs("=1" + " ".repeat(1998), "=1");
        shownAs(" ".repeat(1998) + "=1", "=1");
        shownAs("=" + " ".repeat(1996) + "A80", "=A80");
        shownAs("=" + " ".repeat(1994) + "#REF!", "=#REF!");
        broken(" ".repeat(2000), 2000);
        broken(" ".repeat(1999) + "=", 2000);
        broken("=1" + " ".repeat(1997) + ")", 1999);
        broken("=" + "-".repeat(1999), 2000);
        broken("=" + " ".repeat(1995) + "\"abc", 1996);
        broken("=1" + " ".repeat(1997) + "\"", 1999);
        broken("=1+" + " ".repeat(1996) + "$", 1999);
        broken("=1+" + " ".repeat(1995) + "$A", 1998);
        broken("=1+" + " ".repeat(1996) + "#", 1999);
        broken("=" + "1+".repeat(998) + "22)", 1999);
    }
}
