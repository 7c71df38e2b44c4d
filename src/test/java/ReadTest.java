/** Promise 4: what is read, how it is SHOWN, and the PLACE at which it is broken. */
public final class ReadTest {
    private static final Checks CHECKS = new Checks();

    public static void main(String[] args) {
        start();
        numbers();
        texts();
        truthsAndErrors();
        wordsAndCells();
        behindCells();
        behindCellsWithMarks();
        everyByteBehindCells();
        operators();
        brackets();
        tables();
        functions();
        bindings();
        room();
        CHECKS.finish();
    }

    private static void whole(String formula) {
        shownAs(formula, formula);
    }

    private static void shownAs(String formula, String due) {
        CHECKS.same("<" + formula + ">", Checks.readAndShown(formula), due);
    }

    private static void broken(String formula, int place) {
        CHECKS.same("<" + formula + ">", Checks.readAndShown(formula), "broken at " + place);
    }

    private static void start() {
        broken("", 0);
        broken("   ", 3);
        broken("1", 0);
        broken("  A1", 2);
        broken("=", 1);
        broken("=  ", 3);
        broken("==1", 1);
        broken("=1 =", 4);
        broken("=1\t", 2);
        broken("=1\0", 2);
        broken("=1\u00e9", 2);
        broken("=1 1", 3);
        broken("=a", 1);
        shownAs("  =  1  ", "=1");
        // What is broken by itself may not pass for the end either.
        broken("=1 99999999999", 3);
        broken("=1 \"\t\"", 3);
        broken("=1 \"a", 3);
        broken("=1 #X", 3);
        broken("=1 ABCDEFGHIJKLM", 3);
        broken("=1 $", 3);
        broken("=1 A1: ", 3);
        broken("=1+A1: ", 7);
    }

    private static void numbers() {
        whole("=0");
        whole("=12345678901");
        whole("=12345678901.2345");
        whole("=90000000000");
        shownAs("=00000000000", "=0");
        shownAs("=00000000012", "=12");
        shownAs("=007.50", "=7.5");
        shownAs("=0.5", "=0.5");
        shownAs("=00.05", "=0.05");
        shownAs("=100.0000", "=100");
        shownAs("=0.0", "=0");
        shownAs("=10.010", "=10.01");
        shownAs("=90000000000.0000", "=90000000000");
        broken("=90000000000.0001", 1);
        broken("=90000000001", 1);
        broken("= 99999999999", 2);
        broken("=999999999999", 1);
        broken("=000000000001", 12);
        broken("=123456789012.5", 12);
        broken("=1.00000", 7);
        broken("=1.2345 6", 8);
        broken("=1.", 2);
        broken("=1 .5", 3);
        broken("=1. 5", 2);
        broken("=1.5.5", 4);
        broken("=1,5", 2);
        broken("=1A", 2);
        broken("=1e5", 2);
    }

    private static void texts() {
        whole("=\"\"");
        whole("=\" a  b \"");
        whole("=\"\"\"\"");
        whole("=\"a\"\"b\"");
        whole("=\"=(1{;,'$~\"");
        shownAs("= \" \" & \"  \" ", "=\" \"&\"  \"");
        broken("=\"", 1);
        broken("=1&\"abc", 3);
        broken("=\"a\"\"", 1);
        broken("=\"\"\"", 1);
        broken("=\"a\"\"b", 1);
        broken("=\"a\" \"b\"", 5);
        broken("=\"a\u007f\"", 1);
        broken("=\"a\u001f\"", 1);
        broken("=\"\u0080\"", 1);
        broken("=1 \"a", 3);
    }

    private static void truthsAndErrors() {
        whole("=TRUE");
        whole("=FALSE(1)");
        whole("=TRUEST");
        whole("=TRUE1");
        broken("=TRUE FALSE", 6);
        broken("=True", 2);
        for (String error : "#DIV/0! #VALUE! #REF! #NAME? #NUM! #N/A #CIRC! #CALC!".split(" ")) {
            whole("=" + error + "+" + error);
            whole("=" + error + "(1)");
            broken("=" + error + "A", 1 + error.length());
            broken("=" + error.substring(0, error.length() - 1), 1);
            broken("=" + error.toLowerCase(), 1);
        }
        broken("=#", 1);
        broken("=# REF!", 1);
        broken("=#REF?", 1);
        broken("=#NULL!", 1);
    }

    private static void wordsAndCells() {
        whole("=A");
        whole("=ABCDEFGHIJKL");
        whole("=A_1__2");
        whole("=A0+A81+A100+A01+AA1+A1B+A1_+Z80A");
        whole("=A1+$A1+A$1+$A$1+Z80+$Z$80+M9+M10");
        whole("=SUM+LET+IF");
        broken("=ABCDEFGHIJKLM", 1);
        broken("=1+ABCDEFGHIJKLM(1)", 3);
        broken("=_A", 1);
        broken("=A B", 3);
        broken("=A.B", 2);
        broken("=$", 1);
        broken("=$A", 1);
        broken("=$$A1", 1);
        broken("=$A$", 1);
        broken("=$A$0", 1);
        broken("=$A01", 1);
        broken("=$A81", 1);
        broken("=$A100", 1);
        broken("=$A1B", 1);
        broken("=$A1_", 1);
        broken("=$AA1", 1);
        broken("=$ A1", 1);
        broken("=A$81", 2);
        broken("=A$01", 2);
        broken("=A$1B", 2);
        broken("=A$", 2);
        broken("=AB$1", 3);
        broken("=A1$", 3);
        broken("=A1 B1", 4);
        shownAs("= A1 : B2 ", "=A1:B2");
        whole("=A1:A1");
        shownAs("=B2:A1", "=A1:B2");
        shownAs("=B1:A2", "=A1:B2");
        shownAs("=$B2:A$1", "=A$1:$B2");
        shownAs("=B$2:$A1", "=$A1:B$2");
        shownAs("=Z80:$A$1", "=$A$1:Z80");
        shownAs("=$A1:A$1", "=$A1:A$1");
        broken("=A1:", 4);
        broken("=A1: ", 5);
        broken("=A1:B", 4);
        broken("=A1: B81", 5);
        broken("=A1:1", 4);
        broken("=A1:B2:C3", 6);
        broken("=A1::B2", 4);
        broken("=(A1):B2", 5);
        broken("=A81:B2", 4);
        broken("=1 A1:", 3);
        broken(":", 0);
    }

    // Without a $ first it is a WORD where it is no CELL: broken is then what can't stand behind the WORD.
    private static void behindCells() {
        for (String small : "a m z".split(" ")) {
            broken("=A1" + small, 3);
            broken("=A80" + small, 4);
            broken("=A1" + small + ":B2", 3);
            broken("=A1:B2" + small, 4);
            broken("=A1:B80" + small, 4);
            broken("=A1 : B2" + small, 6);
            broken("=A1 " + small, 4);
            broken("=A1:B2 " + small, 7);
            broken("=LET(A1" + small + ",1,2)", 7);
        }
        for (String part : "A M Z _".split(" ")) {
            whole("=A1" + part);
            whole("=A80" + part);
            broken("=A1" + part + ":B2", 4);
            broken("=A1:B2" + part, 4);
            broken("=A1:B80" + part, 4);
            broken("=A1 : B2" + part, 6);
            broken("=A1 " + part, 4);
            whole("=LET(A1" + part + ",1,2)");
        }
        for (String digit : "0 5 9".split(" ")) {
            whole("=A80" + digit);
            broken("=A80" + digit + ":B2", 5);
            broken("=A1:B80" + digit, 4);
            broken("=A80 " + digit, 5);
            whole("=LET(A80" + digit + ",1,2)");
            // Here the digit is part of the row.
            whole("=A1" + digit + ":B2" + digit);
            broken("=LET(A1" + digit + ",1,2)", 5);
        }
    }

    private static void behindCellsWithMarks() {
        for (String behind : "a m z A M Z _ 0 5 9".split(" ")) {
            for (String cell : "$A80 $A$80".split(" ")) {
                broken("=" + cell + behind, 1);
                broken("= " + cell + behind + ":B2", 2);
                broken("=1+" + cell + behind + ":$B$2", 3);
                broken("=A1:" + cell + behind, 4);
                broken("=$A$1 : " + cell + behind, 8);
                broken("=LET(" + cell + behind + ",1,2)", 5);
            }
            // The A is a WORD here, behind which no $ can stand.
            broken("=A$80" + behind, 2);
            broken("=A$80" + behind + ":B2", 2);
            broken("=A1:A$80" + behind, 4);
            broken("=LET(A$80" + behind + ",1,2)", 6);
        }
        for (String behind : "a z A Z _".split(" ")) {
            broken("=$A1" + behind, 1);
            broken("=$A$1" + behind + ":B2", 1);
            broken("=A$1" + behind, 2);
            broken("=A1:$B2" + behind, 4);
            broken("=A1:B$2" + behind, 4);
            broken("=$A$1:$B$2" + behind, 6);
        }
    }

    private static void everyByteBehindCells() {
        for (char one = 0; one < 256; one++) {
            boolean isCell = "abcdefghijklmnopqrstuvwxyzABCDEFGHIJKLMNOPQRSTUVWXYZ0123456789_".indexOf(one) < 0;
            brokenAtCell("=$A80" + one + "?", 1, isCell);
            brokenAtCell("=$A80" + one + ":B2?", 1, isCell);
            brokenAtCell("=A1:A80" + one + "?", 4, isCell);
            brokenAtCell("=A1:$A$80" + one + "?", 4, isCell);
        }
    }

    /** The formula is broken in any case: at the place, or, where a CELL stands there, behind it. */
    private static void brokenAtCell(String formula, int place, boolean isCell) {
        String found = Checks.readAndShown(formula);
        CHECKS.same("<" + formula + "> is broken", found.startsWith("broken at "), true);
        CHECKS.same("<" + formula + "> at the CELL", found.equals("broken at " + place), !isCell);
    }

    private static void operators() {
        whole("=1+2-3*4/5&6=7<>8<=9>=10<11>12");
        whole("=+-+1%%");
        whole("=1--1");
        whole("=1=-1");
        whole("=1<-1");
        shownAs("= 1 <> 2 % % ", "=1<>2%%");
        broken("=1< >2", 4);
        broken("=1< =2", 4);
        broken("=1> =2", 4);
        broken("=1><2", 3);
        broken("=1=<2", 3);
        broken("=1==2", 3);
        broken("=1<==2", 4);
        broken("=1<>=2", 4);
        broken("=1<>", 4);
        broken("=1+*2", 3);
        broken("=*1", 1);
        broken("=%1", 1);
        broken("=1%2", 3);
        broken("=1%(2)", 3);
        broken("=-", 2);
        broken("=1^2", 2);
        broken("=1!", 2);
        broken("=1;2", 2);
        broken("=1}", 2);
        broken("=1)", 2);
    }

    private static void brackets() {
        whole("=((1)+(2))*3");
        whole("=(1)(2)(3)");
        whole("=FOO()");
        whole("=FOO(1,2,3,4,5,6,7,8,9,10,11,12)");
        whole("=1()+\"a\"(1)+A1(2)+A1:B2(3)+{1}(4)+TRUE()+(1)()");
        whole("=SUM(1)()(1,2)");
        shownAs("= FOO ( 1 , 2 ) ( ) ", "=FOO(1,2)()");
        broken("=()", 2);
        broken("=(1", 3);
        broken("=(1 ", 4);
        broken("=(1,2)", 3);
        broken("=(1}", 3);
        broken("=FOO(", 5);
        broken("=FOO(,1)", 5);
        broken("=FOO(1,)", 7);
        broken("=FOO(1;2)", 6);
        broken("=FOO(1 2)", 7);
        String open12 = "=" + "(".repeat(12);
        whole(open12 + "1" + ")".repeat(12));
        broken("=" + "(".repeat(13) + "1" + ")".repeat(13), 13);
        whole("=" + "F(".repeat(12) + "1" + ")".repeat(12));
        broken("=" + "F(".repeat(12) + "G(" + ")".repeat(13), 26);
        broken("=" + "SUM(".repeat(13) + "1" + ")".repeat(13), 52);
        whole("=" + "(".repeat(11) + "{1}" + ")".repeat(11));
        broken(open12 + "{1}" + ")".repeat(12), 13);
        whole(open12 + "1" + ")".repeat(12) + "(1)".repeat(20) + "+{1}".repeat(20));
        whole("=" + "(".repeat(10) + "{1}({2})(3)" + ")".repeat(10));
        broken("=" + "(".repeat(11) + "{1}({2})(3)" + ")".repeat(11), 16);
    }

    private static void tables() {
        whole("={1}");
        whole("={1,-2.5,\"a;\"\"}\",TRUE,FALSE,#N/A}");
        whole("={1,2;3,4;5,6}");
        whole("={1;2;3}");
        whole("={-0}");
        shownAs("= { - 01 , 2.0 ; 3 , 4 } ", "={-1,2;3,4}");
        broken("={}", 2);
        broken("={1", 3);
        broken("={1,}", 4);
        broken("={1;}", 4);
        broken("={1,2;3}", 7);
        broken("={1,2;3;4,5}", 7);
        broken("={1;2,3}", 5);
        broken("={1,2;3,4,5}", 9);
        broken("={1,2 ; 3 }", 10);
        broken("={1,2;3 4}", 8);
        broken("={1,2;3)", 7);
        broken("={1,2;", 6);
        broken("={1 2}", 4);
        broken("={+1}", 2);
        broken("={--1}", 3);
        broken("={-\"a\"}", 3);
        broken("={-TRUE}", 3);
        broken("={-}", 3);
        broken("={-99999999999}", 3);
        broken("={A1}", 2);
        broken("={A}", 2);
        broken("={TRUE1}", 2);
        broken("={SUM(1)}", 2);
        broken("={(1)}", 2);
        broken("={{1}}", 2);
        broken("={1%}", 3);
        broken("={1+1}", 3);
        broken("={TRUE(1)}", 6);
    }

    private static void functions() {
        arity(1, 1, "ABS INT NOT LEN UPPER ROWS COLUMNS TRANSPOSE SORT UNIQUE");
        arity(2, 2, "ROUND MOD LEFT RIGHT FIND MATCH FILTER IFERROR MAP");
        arity(3, 3, "MID INDEX VLOOKUP SUMIF REDUCE MAKEARRAY");
        arity(4, 4, "SEQUENCE");
        arity(2, 3, "IF");
        arity(2, 9, "CHOOSE");
        arity(1, 8, "SUM MIN MAX COUNT AVERAGE PRODUCT AND OR COUNTA");
        broken("=ABS (1, 2)", 9);
        broken("=ABS(1, ", 8);
        broken("=ABS(1,+)", 7);
        broken("=ABS(1,2+)", 7);
        broken("=ABS(1,)", 7);
        broken("=ABS( )", 6);
        broken("=ABS(1+)", 7);
        broken("=ROUND(1 )", 9);
        broken("=ROUND(1", 8);
        broken("=ROUND(1;2)", 8);
        broken("=ROUND(1,2", 10);
        broken("=ABS(1)+ABS(1,ABS(1,2))", 14);
        broken("=ABS(ABS(1,2),3)", 11);
        whole("=ABSX()");
        whole("=AB()");
        whole("=ABS+(1)");
        whole("=(ABS)(1,2)");
        whole("=ABS(1)(2,3)");
        whole("=COUNT(1,2)+COUNTA(1)");
    }

    private static void arity(int least, int most, String names) {
        for (String name : names.split(" ")) {
            for (int n = 0; n <= most + 2; n++) {
                String before = "=" + name + "(";
                String call = before + "1,".repeat(n).substring(0, Math.max(0, 2 * n - 1)) + ")";
                if (n < least) {
                    broken(call, call.length() - 1);
                } else if (n <= most) {
                    whole(call);
                } else {
                    broken(call, before.length() + 2 * most);
                }
            }
        }
    }

    private static void bindings() {
        whole("=LET(X,1,X)");
        whole("=LET(X,1,Y,2,X+Y)");
        whole("=LET(A,1,B,2,C,3,D,4,E,5,A)");
        whole("=LET(SUM,1,SUM)");
        whole("=LET(X,Y,Z)");
        whole("=LET(X,1,Y(2))");
        shownAs("= LET ( X , 1 , Y , 2 , X ) ", "=LET(X,1,Y,2,X)");
        broken("=LET()", 5);
        broken("=LET(X)", 6);
        broken("=LET(X,)", 7);
        broken("=LET(X,1)", 8);
        broken("=LET(X,1,)", 9);
        broken("=LET(X,1,Y,2)", 12);
        broken("=LET(X,1,Y,)", 11);
        broken("=LET(X,1,2,3)", 11);
        broken("=LET(X,1,Y+1,3)", 13);
        broken("=LET(X,1,Y(2),3)", 14);
        broken("=LET(A,1,B,2,C,3,D,4,E,5,F,6)", 27);
        broken("=LET(A,1,B,2,C,3,D,4,E,5,F,6,A)", 27);
        broken("=LET(1,2,3)", 5);
        broken("=LET(A1,2,3)", 5);
        broken("=LET(X,1,A1,3)", 12);
        broken("=LET(TRUE,2,3)", 5);
        broken("=LET(X+1,2,3)", 6);
        broken("=LET(X(1),2,3)", 6);
        broken("=LET((X),1,2)", 5);
        broken("=LET(ABCDEFGHIJKLM,1,2)", 5);
        broken("=LET(X;1,2)", 6);
        broken("=LET(X,1;2)", 8);
        whole("=LAMBDA(1)");
        whole("=LAMBDA(X)");
        whole("=LAMBDA(X,X)");
        whole("=LAMBDA(A,B,C,D,E,A+B)(1,2,3,4,5)");
        whole("=LAMBDA(A,B,C,D,E,F)");
        whole("=LAMBDA(X,LAMBDA(Y,X+Y))(1)(2)");
        shownAs("= LAMBDA ( X , Y , X ) ", "=LAMBDA(X,Y,X)");
        broken("=LAMBDA()", 8);
        broken("=LAMBDA(X,)", 10);
        broken("=LAMBDA(X,1,2)", 12);
        broken("=LAMBDA(1,2)", 10);
        broken("=LAMBDA(A1,2)", 11);
        broken("=LAMBDA(TRUE,2)", 13);
        broken("=LAMBDA(X+1,2)", 12);
        broken("=LAMBDA(A,B,C,D,E,F,G)", 20);
        broken("=LAMBDA(X", 9);
        broken("=LAMBDA(X Y)", 10);
        broken("=" + "LET(X,1,".repeat(13) + "X" + ")".repeat(13), 1 + 12 * 8 + 3);
        whole("=" + "LET(X,".repeat(12) + "1" + ",X)".repeat(12));
        whole("=" + "LAMBDA(X,".repeat(12) + "X" + ")".repeat(12));
    }

    private static void room() {
        String full = "=" + "1+".repeat(499) + "1";
        whole(full);
        FormulaShaper x = Checks.reading(full);
        CHECKS.same("1000 bytes", x.show(), 1000);
        Checks.feed(x, full + "%");
        CHECKS.throwsOnly("1001 bytes", IndexOutOfBoundsException.class, () -> x.read());
        CHECKS.same("the formula that was stays", x.show(), 1000);
        CHECKS.same("the tape is empty", x.count(0), 0);
        Checks.feed(x, full + "%%)");
        CHECKS.throwsOnly("broken behind 1000 bytes", UnsupportedOperationException.class, () -> x.read());
        CHECKS.same("place behind 1000 bytes", x.count(2), full.length() + 2);
        CHECKS.same("the formula that was stays whole", x.show(), 1000);

        FormulaShaper blanks = Checks.reading("=1" + " ".repeat(1998));
        CHECKS.same("2000 bytes, 2 of them shown", Checks.shown(blanks), "=1");
        Checks.feed(blanks, "=" + "-".repeat(1999));
        CHECKS.throwsOnly("2000 things", UnsupportedOperationException.class, () -> blanks.read());
        CHECKS.same("place behind 2000 things", blanks.count(2), 2000);
        Checks.feed(blanks, "=" + "-".repeat(1998) + "1");
        CHECKS.throwsOnly("2000 things shown", IndexOutOfBoundsException.class, () -> blanks.read());
        CHECKS.same("no place is told", blanks.count(2), -1);
        CHECKS.same("the short one stays", Checks.shown(blanks), "=1");

        FormulaShaper digits = new FormulaShaper();
        Checks.feed(digits, "=0" + "+00000000001.0000".repeat(100));
        CHECKS.same("short numbers", digits.read(), 202);
    }
}
