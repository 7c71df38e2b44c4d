import java.lang.reflect.Member;
import java.lang.reflect.Modifier;
import java.util.Arrays;
import java.util.stream.Collectors;
import java.util.stream.Stream;

/** Promises 1, 2, 3, 8, 10 and 11: what goes in and out beside the formulas themselves; and the face. */
public final class TapeTest {
    private static final Checks CHECKS = new Checks();

    public static void main(String[] args) {
        newObject();
        feed();
        end();
        show();
        word();
        fullResult();
        resultStays();
        count();
        places();
        lastCalls();
        face();
        CHECKS.finish();
    }

    private static void newObject() {
        FormulaShaper x = new FormulaShaper();
        CHECKS.same("new: tape", x.count(0), 0);
        CHECKS.same("new: result", x.count(1), 0);
        CHECKS.same("new: place", x.count(2), -1);
        CHECKS.same("new: references", x.count(3), 0);
        CHECKS.throwsOnly("new: show", IllegalStateException.class, () -> x.show());
        CHECKS.throwsOnly("new: copy", IllegalStateException.class, () -> x.copy(0, 0));
        CHECKS.throwsOnly("new: insert", IllegalStateException.class, () -> x.insert(false, 0, 1));
        CHECKS.throwsOnly("new: remove", IllegalStateException.class, () -> x.remove(true, 0, 1));
        CHECKS.throwsOnly("new: reference", IllegalStateException.class, () -> x.reference(0, 0));
        CHECKS.throwsOnly("new: reference -1", IllegalStateException.class, () -> x.reference(-1, 3));
        CHECKS.throwsOnly("new: word", IndexOutOfBoundsException.class, () -> x.word(0));
        CHECKS.throwsOnly("new: read", UnsupportedOperationException.class, () -> x.read());
        CHECKS.same("new: place of nothing", x.count(2), 0);
        CHECKS.throwsOnly("new: show after a broken read", IllegalStateException.class, () -> x.show());
    }

    private static void feed() {
        FormulaShaper x = new FormulaShaper();
        CHECKS.same("feed", x.feed(0x3D226162, 0x63646566, 0x6768696A, 0x6B6C6D6E, 0x6F707122), 20);
        CHECKS.same("fed formula", x.read(), 20);
        CHECKS.same("bytes in order", Checks.shown(x), "=\"abcdefghijklmnopq\"");
        CHECKS.same("read empties the tape", x.count(0), 0);
        CHECKS.same("feed of great bytes", x.feed(0x3D31FFFF, -1, -1, -1, -1), 20);
        CHECKS.throwsOnly("great bytes", UnsupportedOperationException.class, () -> x.read());
        CHECKS.same("place of a great byte", x.count(2), 2);
        CHECKS.same("a broken read empties the tape", x.count(0), 0);

        FormulaShaper full = new FormulaShaper();
        for (int i = 1; i <= 100; i++) {
            CHECKS.same("feed " + i, full.feed(0, 0, 0, 0, 0), 20 * i);
        }
        CHECKS.throwsOnly("feed beyond 2000", IndexOutOfBoundsException.class, () -> full.feed(0, 0, 0, 0, 0));
        CHECKS.same("nothing came", full.count(0), 2000);
        CHECKS.same("end(2000) of a full tape", full.end(2000), 2000);
        CHECKS.throwsOnly("end(2001) of a full tape", IllegalArgumentException.class, () -> full.end(2001));
        full.end(1981);
        CHECKS.throwsOnly("feed to 2001", IndexOutOfBoundsException.class, () -> full.feed(0, 0, 0, 0, 0));
        CHECKS.same("nothing came to 1981", full.count(0), 1981);
        full.end(1980);
        CHECKS.same("feed to 2000", full.feed(0, 0, 0, 0, 0), 2000);
        CHECKS.same("end(0) of a full tape", full.end(0), 0);
        CHECKS.same("feed to an empty tape", full.feed(-1, -1, -1, -1, -1), 20);
    }

    private static void end() {
        FormulaShaper x = new FormulaShaper();
        CHECKS.same("end of nothing", x.end(0), 0);
        CHECKS.throwsOnly("end(1) of nothing", IllegalArgumentException.class, () -> x.end(1));
        x.feed(0x3D312B32, 0x2B330000, 0, 0, 0);
        CHECKS.throwsOnly("end(-1)", IllegalArgumentException.class, () -> x.end(-1));
        CHECKS.throwsOnly("end(21)", IllegalArgumentException.class, () -> x.end(21));
        CHECKS.same("a refused end keeps all", x.count(0), 20);
        CHECKS.same("end(20)", x.end(20), 20);
        CHECKS.same("end(4)", x.end(4), 4);
        CHECKS.same("tape after end", x.count(0), 4);
        CHECKS.throwsOnly("end(5)", IllegalArgumentException.class, () -> x.end(5));
        x.feed(0x2A350000, 0, 0, 0, 0);
        x.end(6);
        x.read();
        CHECKS.same("first bytes are kept, more come behind", Checks.shown(x), "=1+2*5");
        CHECKS.throwsOnly("end after read", IllegalArgumentException.class, () -> x.end(1));
    }

    private static void show() {
        FormulaShaper x = Checks.reading(" = A1 + \" b \" ");
        CHECKS.same("no result before show", x.count(1), 0);
        CHECKS.same("show", x.show(), 9);
        CHECKS.same("result", x.count(1), 9);
        x.copy(1, 1);
        CHECKS.same("result stays until the next show", x.word(0), 0x3D41312B22206220L);
        x.show();
        CHECKS.same("result after the next show", x.word(0), 0x3D42322B22206220L);
        Checks.feed(x, "=1");
        x.read();
        CHECKS.same("result stays as another is read", x.count(1), 9);
        CHECKS.same("a shorter one", x.show(), 2);
        CHECKS.same("nothing of the longer one is left", x.word(0), 0x3D31000000000000L);
    }

    private static void word() {
        FormulaShaper x = Checks.reading("=123456789");
        CHECKS.throwsOnly("word before show", IndexOutOfBoundsException.class, () -> x.word(0));
        x.show();
        CHECKS.same("word(0)", x.word(0), 0x3D31323334353637L);
        CHECKS.same("word(2)", x.word(2), 0x3233343536373839L);
        CHECKS.same("word(3)", x.word(3), 0x3334353637383900L);
        CHECKS.same("word(9)", x.word(9), 0x3900000000000000L);
        CHECKS.throwsOnly("word(10)", IndexOutOfBoundsException.class, () -> x.word(10));
        CHECKS.throwsOnly("word(-1)", IndexOutOfBoundsException.class, () -> x.word(-1));
        CHECKS.throwsOnly("word(MAX)", IndexOutOfBoundsException.class, () -> x.word(Integer.MAX_VALUE));
        CHECKS.throwsOnly("word(MIN)", IndexOutOfBoundsException.class, () -> x.word(Integer.MIN_VALUE));
    }

    /** The longest result: the last of its bytes, and the first that is none. */
    private static void fullResult() {
        FormulaShaper x = Checks.reading("=\"" + "abcdefgh".repeat(124) + "xyz12\"");
        CHECKS.same("a full result", x.show(), 1000);
        CHECKS.same("its bytes", x.count(1), 1000);
        CHECKS.same("its last eight", x.word(992), 0x676878797A313222L);
        CHECKS.same("its last seven", x.word(993), 0x6878797A31322200L);
        CHECKS.same("its last one", x.word(999), 0x2200000000000000L);
        CHECKS.throwsOnly("word(1000)", IndexOutOfBoundsException.class, () -> x.word(1000));
        CHECKS.throwsOnly("word(1999)", IndexOutOfBoundsException.class, () -> x.word(1999));
        Checks.feed(x, "=1");
        x.read();
        x.show();
        CHECKS.same("the last byte of the shortest", x.word(1), 0x3100000000000000L);
        CHECKS.throwsOnly("word(2) of the shortest", IndexOutOfBoundsException.class, () -> x.word(2));
        CHECKS.throwsOnly("word(999) of the shortest", IndexOutOfBoundsException.class, () -> x.word(999));
    }

    /** The result stays so until the next show(), whatever is called. */
    private static void resultStays() {
        FormulaShaper x = Checks.reading("=B2");
        x.show();
        Checks.Call[] calls = {() -> x.feed(0x3D432420, 0, 0, 0, 0), () -> x.end(2), () -> x.read(), () -> x.copy(1, 0),
            () -> x.insert(false, 0, 1), () -> x.insert(true, 0, 1), () -> x.remove(false, 0, 1),
            () -> x.remove(true, 0, 1), () -> x.reference(0, 0), () -> x.word(1), () -> x.count(3), () -> x.copy(-100, 0),
            () -> x.copy(101, 0), () -> x.read(), () -> x.word(3), () -> x.count(4)};
        for (int i = 0; i < calls.length; i++) {
            Checks.thrownBy(calls[i]);
            CHECKS.same("length of the result after call " + i, x.count(1), 3);
            CHECKS.same("the result after call " + i, x.word(0), 0x3D42320000000000L);
        }
        CHECKS.same("the next show", x.show(), 2);
        CHECKS.same("the result of the next show", x.word(0), 0x3D43000000000000L);
    }

    /** PLACE is that of the latest read: no other call tells one or takes it back. */
    private static void places() {
        FormulaShaper x = new FormulaShaper();
        Checks.feed(x, "=1");
        CHECKS.same("place before a read", x.count(2), -1);
        x.read();
        CHECKS.same("place of a whole one", x.count(2), -1);
        Checks.feed(x, "=A1+");
        CHECKS.same("place before the next read", x.count(2), -1);
        CHECKS.throwsOnly("a broken one", UnsupportedOperationException.class, () -> x.read());
        CHECKS.same("place of a broken one", x.count(2), 4);
        Checks.Call[] calls = {() -> x.feed(0, 0, 0, 0, 0), () -> x.end(0), () -> x.copy(0, 0), () -> x.copy(101, 0),
            () -> x.insert(true, 0, 1), () -> x.remove(true, 0, 1), () -> x.show(), () -> x.reference(0, 0),
            () -> x.word(0), () -> x.count(0), () -> x.count(4), () -> x.end(1)};
        for (int i = 0; i < calls.length; i++) {
            Checks.thrownBy(calls[i]);
            CHECKS.same("place after call " + i, x.count(2), 4);
        }
        CHECKS.throwsOnly("an empty one", UnsupportedOperationException.class, () -> x.read());
        CHECKS.same("place of an empty one", x.count(2), 0);
        Checks.feed(x, "=2");
        x.read();
        CHECKS.same("place of the whole one behind it", x.count(2), -1);
    }

    /** An object is used for at most 512 calls: the last ones answer as the first. */
    private static void lastCalls() {
        FormulaShaper x = new FormulaShaper();
        for (int i = 0; i < 64; i++) {
            int bytes = 0x3D41312B + (i % 25 << 16);
            int column = i % 25;
            CHECKS.same("feed in turn " + i, x.feed(bytes, 0x5A383000, 0, 0, 0), 20);
            CHECKS.same("end in turn " + i, x.end(7), 7);
            CHECKS.same("read in turn " + i, x.read(), 7);
            CHECKS.same("copy in turn " + i, x.copy(-1 + i % 2, 1), i % 2 == 0 ? 12 : 9);
            CHECKS.same("count in turn " + i, x.count(3), i % 2);
            CHECKS.same("reference in turn " + i, Checks.answer(() -> x.reference(0, 1)),
                    i % 2 == 0 ? "throws.NoSuchElementException" : String.valueOf(column + 1));
            CHECKS.same("show in turn " + i, x.show(), i % 2 == 0 ? 12 : 9);
            CHECKS.same("word in turn " + i, x.word(i % 2 == 0 ? 11 : 8), 0x2100000000000000L);
        }
    }

    private static void count() {
        FormulaShaper x = Checks.reading("=A1+B2:C3+A1");
        CHECKS.same("references", x.count(3), 3);
        CHECKS.same("place of a whole one", x.count(2), -1);
        Checks.feed(x, "=1+)");
        CHECKS.same("bytes of the tape", x.count(0), 4);
        CHECKS.throwsOnly("broken", UnsupportedOperationException.class, () -> x.read());
        CHECKS.same("place of a broken one", x.count(2), 3);
        CHECKS.same("references of the one that stays", x.count(3), 3);
        x.copy(-1, 0);
        CHECKS.same("place stays as long as none is read", x.count(2), 3);
        CHECKS.same("references that are left", x.count(3), 1);
        Checks.feed(x, "=" + "1+".repeat(500) + "1");
        CHECKS.throwsOnly("no room", IndexOutOfBoundsException.class, () -> x.read());
        CHECKS.same("place where there was no room", x.count(2), -1);
        CHECKS.throwsOnly("count(4)", IllegalArgumentException.class, () -> x.count(4));
        CHECKS.throwsOnly("count(-1)", IllegalArgumentException.class, () -> x.count(-1));
    }

    private static void face() {
        Class<?> face = FormulaShaper.class;
        String seen = Stream.of(face.getDeclaredMethods(), face.getDeclaredConstructors(), face.getDeclaredFields())
                .flatMap(Arrays::stream)
                .map(Member.class::cast)
                .filter(m -> !m.isSynthetic() && !Modifier.isPrivate(m.getModifiers()))
                .map(m -> (Modifier.isPublic(m.getModifiers()) ? "" : "not public: ") + m.getName())
                .sorted()
                .collect(Collectors.joining(" "));
        CHECKS.same("the face", seen, "FormulaShaper copy count end feed insert read reference remove show word");
    }
}
