import java.util.NoSuchElementException;

/** What README.md tells of the class: its examples, and how it reads what could be read in two ways. */
public final class ReadmeTest {
    private static final Checks CHECKS = new Checks();

    public static void main(String[] args) {
        examples();
        ordered();
        beyondTheLast();
        broken("=\"a", 1);
        broken("=\"a\tb\"", 1);
        broken("=LET(X+1,2,3)", 6);
        broken("=A1z", 3);
        CHECKS.throwsOnly("reference(-1, 0)", NoSuchElementException.class,
                () -> Checks.reading("=A1").reference(-1, 0));
        CHECKS.finish();
    }

    private static void examples() {
        FormulaShaper x = new FormulaShaper();
        CHECKS.same("feed", x.feed(0x3D41312B, 0x42243200, 0, 0, 0), 20);
        CHECKS.same("end", x.end(7), 7);
        CHECKS.same("read", x.read(), 7);
        CHECKS.same("copy", x.copy(1, 1), 7);
        CHECKS.same("copied", Checks.shown(x), "=B2+C$2");
        CHECKS.same("insert", x.insert(false, 1, 3), 7);
        CHECKS.same("inserted", Checks.shown(x), "=B5+C$5");
        CHECKS.same("remove", x.remove(true, 1, 1), 10);
        CHECKS.same("show", x.show(), 10);
        CHECKS.same("word(0)", x.word(0), 0x3D23524546212B42L);
        CHECKS.same("word(8)", x.word(8), 0x2435000000000000L);
        CHECKS.same("count(3)", x.count(3), 1);
        CHECKS.same("reference(0, 0)", x.reference(0, 0), 4);

        x.feed(0x3D312B29, 0, 0, 0, 0);
        x.end(4);
        CHECKS.throwsOnly("read =1+)", UnsupportedOperationException.class, () -> x.read());
        CHECKS.same("count(2)", x.count(2), 3);
        CHECKS.same("show as before", x.show(), 10);
    }

    private static void ordered() {
        CHECKS.same("in order as soon as read", Checks.readAndShown("=$B2:A$1"), "=A$1:$B2");
        CHECKS.same("equal as they stand", Checks.readAndShown("=$A1:A$1+A$1:$A1"), "=$A1:A$1+A$1:$A1");
        FormulaShaper x = Checks.reading("=A$5:A3");
        x.copy(2, 0);
        CHECKS.same("equal behind a copy", Checks.shown(x), "=A5:A$5");
        x.copy(1, 0);
        CHECKS.same("in order behind a copy", Checks.shown(x), "=A$5:A6");
        x.copy(-1, 0);
        CHECKS.same("equal behind another copy", Checks.shown(x), "=A$5:A5");
    }

    private static void beyondTheLast() {
        for (int k = 1; k < 80; k++) {
            FormulaShaper x = Checks.reading("=A1:$A$80");
            x.insert(false, k, 80 - k);
            CHECKS.same("rows put in up to the last before " + k, Checks.shown(x), "=A1:$A$" + k);
        }
        for (int k = 1; k < 26; k++) {
            FormulaShaper x = Checks.reading("=A1:$Z$80");
            x.insert(true, k, 26 - k);
            CHECKS.same("columns put in up to the last before " + k, Checks.shown(x), "=A1:$" + (char) ('A' + k - 1) + "$80");
        }
        FormulaShaper all = Checks.reading("=A1:$Z$80");
        all.insert(false, 0, 80);
        CHECKS.same("none left", Checks.shown(all), "=#REF!");
    }

    private static void broken(String formula, int place) {
        CHECKS.same("<" + formula + ">", Checks.readAndShown(formula), "broken at " + place);
    }
}
