import java.lang.reflect.Constructor;
import java.lang.reflect.Field;
import java.lang.reflect.Method;
import java.lang.reflect.Modifier;
import java.util.Arrays;
import java.util.Set;
import java.util.TreeSet;
import java.util.function.LongSupplier;

/** The document's promises one by one: ordinary inputs, the edges that it names, wrong inputs. */
public final class PromiseTests {
    private static final long ILLEGAL_ARGUMENT = -1001;
    private static final long ILLEGAL_STATE = -1002;
    private static final long OUT_OF_BOUNDS = -1003;
    private static final int[] EDGES = {Integer.MIN_VALUE, -1, Integer.MAX_VALUE};

    private static String part = "";
    private static int step = 0;
    private static int wrong = 0;

    public static void main(String[] args) {
        face();
        newObject();
        line();
        remove();
        field();
        clear();
        value();
        need();
        code();
        day();
        checkWanted();
        checkSums();
        checkCodes();
        checkOrder();
        lodge();
        lodgedFormStays();
        amend();
        amendAndCheck();
        paper();
        draw();
        sum();
        pack();
        octet();
        read();
        readCounts();
        readFields();
        readOrder();
        readForbidden();
        readValues();
        readOwnPacking();
        count();
        System.out.println(wrong == 0 ? "all promises hold" : wrong + " answers are not as due");
        if (wrong != 0) {
            System.exit(1);
        }
    }

    // ---- helpers

    private static void begin(String name) {
        part = name;
        step = 0;
    }

    private static void due(long want, LongSupplier call) {
        step++;
        long got = answer(call);
        if (got != want) {
            wrong++;
            System.out.println(part + ", step " + step + ": answered " + got + ", due is " + want);
        }
    }

    private static long answer(LongSupplier call) {
        try {
            return call.getAsLong();
        } catch (IllegalArgumentException e) {
            return e.getClass() == IllegalArgumentException.class ? ILLEGAL_ARGUMENT : -2001;
        } catch (IllegalStateException e) {
            return e.getClass() == IllegalStateException.class ? ILLEGAL_STATE : -2002;
        } catch (IndexOutOfBoundsException e) {
            return e.getClass() == IndexOutOfBoundsException.class ? OUT_OF_BOUNDS : -2003;
        }
    }

    private static void yes(boolean got) {
        due(1, () -> got ? 1 : 0);
    }

    private static void no(boolean got) {
        due(0, () -> got ? 1 : 0);
    }

    private static DeclareForms withLines(int kind, int lines) {
        DeclareForms x = new DeclareForms(kind);
        for (int i = 0; i < lines; i++) {
            x.line();
        }
        return x;
    }

    /** Kind 0 wants 0, 4, 8 of the head and 12, 16 of lines, and forbids 1, 5, 9, 13, 17. */
    private static DeclareForms wholeKind0(int lines) {
        DeclareForms x = withLines(0, lines);
        x.field(0, 0, 1);
        x.field(4, 0, 1);
        x.field(8, 0, 1);
        for (int l = 1; l <= lines; l++) {
            x.field(12, l, 10 * l);
            x.field(16, l, 1);
        }
        return x;
    }

    private static DeclareForms lodgedKind0(int lines) {
        DeclareForms x = wholeKind0(lines);
        x.lodge();
        return x;
    }

    /** All that can be asked, so that a refused call can be seen to change nothing. */
    private static String stateOf(DeclareForms x) {
        StringBuilder s = new StringBuilder();
        for (int what = 0; what <= 8; what++) {
            s.append(x.count(what)).append(' ');
        }
        for (int number = 1; number <= 40; number++) {
            s.append(x.count(100 + number)).append(' ');
        }
        for (int i = 0; i < x.pack(); i++) {
            s.append(x.octet(i)).append(' ');
        }
        return s.append(x.check()).toString();
    }

    private static void same(String before, DeclareForms x) {
        yes(before.equals(stateOf(x)));
    }

    /** Every byte but the last must go on; the last is answered by want. */
    private static void row(DeclareForms x, int want, int... bytes) {
        for (int i = 0; i < bytes.length; i++) {
            byte b = (byte) bytes[i];
            due(i == bytes.length - 1 ? want : 0, () -> x.read(b));
        }
    }

    // ---- the face

    private static void face() {
        begin("the public face");
        Set<String> want = new TreeSet<>(Arrays.asList(
                "int line() IllegalStateException", "int remove(int)",
                "int field(int,int,long) IllegalArgumentException", "boolean clear(int,int)",
                "long value(int,int) IllegalArgumentException",
                "int need(int) IllegalArgumentException", "boolean code(long,int)",
                "boolean day(int)", "int check()", "int lodge()",
                "int amend(int,int,long) IllegalArgumentException IllegalStateException",
                "boolean paper(int,int)", "int draw(int,int,int) IllegalArgumentException",
                "long sum(int) IllegalArgumentException", "int pack()",
                "byte octet(int) IndexOutOfBoundsException", "int read(byte)", "int count(int)"));
        Set<String> got = new TreeSet<>();
        for (Method m : DeclareForms.class.getDeclaredMethods()) {
            if (!Modifier.isPrivate(m.getModifiers())) {
                got.add(textOf(m));
            }
        }
        yes(want.equals(got));
        for (Field f : DeclareForms.class.getDeclaredFields()) {
            yes(Modifier.isPrivate(f.getModifiers()) || f.getName().equals("NONE"));
        }
        Constructor<?>[] made = DeclareForms.class.getDeclaredConstructors();
        yes(made.length == 1 && Modifier.isPublic(made[0].getModifiers()));
        yes(Modifier.isFinal(DeclareForms.class.getModifiers()));
        due(-1, () -> DeclareForms.NONE);
    }

    private static String textOf(Method m) {
        StringBuilder s = new StringBuilder();
        s.append(m.getReturnType().getSimpleName()).append(' ').append(m.getName()).append('(');
        for (int i = 0; i < m.getParameterCount(); i++) {
            s.append(i == 0 ? "" : ",").append(m.getParameterTypes()[i].getSimpleName());
        }
        s.append(')');
        for (Class<?> e : m.getExceptionTypes()) {
            s.append(' ').append(e.getSimpleName());
        }
        return s.toString();
    }

    // ---- promises 1 to 7

    private static void newObject() {
        begin("1 a new object");
        int[] told = {Integer.MIN_VALUE, -1, 0, 1, 2, 3, 4, Integer.MAX_VALUE};
        int[] held = {0, 0, 0, 1, 2, 3, 3, 3};
        for (int i = 0; i < told.length; i++) {
            DeclareForms x = new DeclareForms(told[i]);
            int kind = held[i];
            due(kind, () -> x.count(6));
            for (int what = 0; what <= 8; what++) {
                int asked = what;
                due(what == 6 ? kind : 0, () -> x.count(asked));
            }
            due(3, x::pack);
            for (int f = 0; f < 10; f++) {
                int head = f;
                due(-1, () -> x.value(head, 0));
            }
        }
    }

    private static void line() {
        begin("2 line");
        DeclareForms x = new DeclareForms(0);
        for (int l = 1; l <= 29; l++) {
            due(l, x::line);
        }
        x.remove(29);
        x.remove(3);
        due(27, () -> x.count(0));
        due(30, x::line);
        due(28, () -> x.count(0));
        x.remove(30);
        String before = stateOf(x);
        due(ILLEGAL_STATE, x::line);
        due(ILLEGAL_STATE, x::line);
        same(before, x);
        DeclareForms y = lodgedKind0(1);
        due(ILLEGAL_STATE, y::line);
        due(1, () -> y.count(0));
    }

    private static void remove() {
        begin("3 remove");
        DeclareForms x = withLines(0, 3);
        x.field(0, 0, 5);
        x.field(10, 2, 5);
        x.field(19, 2, 0);
        x.field(12, 3, 7);
        due(-1, () -> x.remove(0));
        due(-1, () -> x.remove(4));
        due(-1, () -> x.remove(30));
        due(-1, () -> x.remove(31));
        for (int l : EDGES) {
            due(-1, () -> x.remove(l));
        }
        due(4, () -> x.count(1));
        due(2, () -> x.remove(2));
        due(-1, () -> x.remove(2));
        due(2, () -> x.count(1));
        due(2, () -> x.count(0));
        due(ILLEGAL_ARGUMENT, () -> x.value(10, 2));
        due(ILLEGAL_ARGUMENT, () -> x.field(10, 2, 1));
        due(0, () -> x.remove(1));
        due(7, () -> x.value(12, 3));
        due(4, x::line);
        due(-1, () -> x.value(10, 4));
        DeclareForms y = lodgedKind0(2);
        due(-1, () -> y.remove(1));
        due(2, () -> y.count(0));
    }

    private static void field() {
        begin("4 field");
        DeclareForms x = withLines(0, 2);
        due(1, () -> x.field(0, 0, 0));
        due(1, () -> x.field(8, 0, 1000000000));
        due(1, () -> x.field(10, 1, 3));
        due(1, () -> x.field(19, 2, 4));
        due(1, () -> x.field(19, 2, 5));
        due(4, () -> x.count(1));
        due(5, () -> x.value(19, 2));
        due(0, () -> x.field(9, 0, 1));
        due(0, () -> x.field(17, 1, 1));
        due(-1, () -> x.value(9, 0));
        String before = stateOf(x);
        due(ILLEGAL_ARGUMENT, () -> x.field(9, 1, 1));
        due(ILLEGAL_ARGUMENT, () -> x.field(0, 1, 1));
        due(ILLEGAL_ARGUMENT, () -> x.field(10, 0, 1));
        due(ILLEGAL_ARGUMENT, () -> x.field(10, 3, 1));
        due(ILLEGAL_ARGUMENT, () -> x.field(10, 31, 1));
        due(ILLEGAL_ARGUMENT, () -> x.field(20, 1, 1));
        due(ILLEGAL_ARGUMENT, () -> x.field(20, 0, 1));
        due(ILLEGAL_ARGUMENT, () -> x.field(0, 0, -1));
        due(ILLEGAL_ARGUMENT, () -> x.field(0, 0, 1000000001));
        due(ILLEGAL_ARGUMENT, () -> x.field(0, 0, 1L << 32));
        due(ILLEGAL_ARGUMENT, () -> x.field(0, 0, Long.MIN_VALUE));
        due(ILLEGAL_ARGUMENT, () -> x.field(0, 0, Long.MAX_VALUE));
        due(ILLEGAL_ARGUMENT, () -> x.field(1, 0, -1));
        for (int e : EDGES) {
            due(ILLEGAL_ARGUMENT, () -> x.field(e, 0, 1));
            due(ILLEGAL_ARGUMENT, () -> x.field(e, 1, 1));
            due(ILLEGAL_ARGUMENT, () -> x.field(0, e, 1));
            due(ILLEGAL_ARGUMENT, () -> x.field(10, e, 1));
        }
        same(before, x);
        DeclareForms y = lodgedKind0(1);
        due(0, () -> y.field(0, 0, 9));
        due(1, () -> y.value(0, 0));
        due(ILLEGAL_ARGUMENT, () -> y.field(0, 0, -1));
        due(ILLEGAL_ARGUMENT, () -> y.field(10, 2, 1));
    }

    private static void clear() {
        begin("5 clear");
        DeclareForms x = withLines(0, 2);
        x.field(0, 0, 0);
        x.field(10, 1, 4);
        no(x.clear(10, 2));
        no(x.clear(10, 3));
        no(x.clear(10, 0));
        no(x.clear(0, 1));
        no(x.clear(1, 0));
        no(x.clear(20, 1));
        for (int e : EDGES) {
            no(x.clear(e, 0));
            no(x.clear(e, 1));
            no(x.clear(0, e));
            no(x.clear(10, e));
        }
        due(2, () -> x.count(1));
        yes(x.clear(10, 1));
        no(x.clear(10, 1));
        due(-1, () -> x.value(10, 1));
        yes(x.clear(0, 0));
        due(0, () -> x.count(1));
        due(1000000, x::check);
        DeclareForms y = lodgedKind0(1);
        no(y.clear(0, 0));
        due(1, () -> y.value(0, 0));
    }

    private static void value() {
        begin("6 value");
        DeclareForms x = withLines(1, 2);
        due(-1, () -> x.value(0, 0));
        due(-1, () -> x.value(19, 2));
        due(-1, () -> x.value(10, 1));
        x.field(0, 0, 0);
        x.field(9, 0, 9);
        x.field(11, 2, 1000000000);
        due(0, () -> x.value(0, 0));
        due(9, () -> x.value(9, 0));
        due(1000000000, () -> x.value(11, 2));
        due(-1, () -> x.value(11, 1));
        due(ILLEGAL_ARGUMENT, () -> x.value(9, 1));
        due(ILLEGAL_ARGUMENT, () -> x.value(10, 0));
        due(ILLEGAL_ARGUMENT, () -> x.value(11, 3));
        due(ILLEGAL_ARGUMENT, () -> x.value(11, 31));
        due(ILLEGAL_ARGUMENT, () -> x.value(20, 1));
        for (int e : EDGES) {
            due(ILLEGAL_ARGUMENT, () -> x.value(e, 0));
            due(ILLEGAL_ARGUMENT, () -> x.value(e, 1));
            due(ILLEGAL_ARGUMENT, () -> x.value(0, e));
            due(ILLEGAL_ARGUMENT, () -> x.value(11, e));
        }
        x.remove(2);
        due(ILLEGAL_ARGUMENT, () -> x.value(11, 2));
        due(1, () -> lodgedKind0(1).value(0, 0));
    }

    private static void need() {
        begin("7 need");
        String[] needs = {"03210321032103210321", "10321032103210321032",
            "21032103210321032103", "32103210321032103210"};
        for (int kind = 0; kind <= 3; kind++) {
            DeclareForms x = new DeclareForms(kind);
            for (int f = 0; f <= 19; f++) {
                int asked = f;
                due(needs[kind].charAt(f) - '0', () -> x.need(asked));
            }
            due(ILLEGAL_ARGUMENT, () -> x.need(20));
            for (int e : EDGES) {
                due(ILLEGAL_ARGUMENT, () -> x.need(e));
            }
        }
    }

    // ---- promises 8 and 9

    private static void code() {
        begin("8 code");
        DeclareForms x = new DeclareForms(0);
        no(x.code(-1, 5));
        no(x.code(1000000001L, 5));
        no(x.code(Long.MIN_VALUE, 5));
        no(x.code((1L << 32) + 7, 5));
        no(x.code(5, -1));
        no(x.code(5, 100001));
        no(x.code(5, Integer.MIN_VALUE));
        no(x.code(5, Integer.MAX_VALUE));
        due(0, () -> x.count(3));
        yes(x.code(0, 0));
        yes(x.code(1000000000, 100000));
        due(2, () -> x.count(3));
        x.day(3);
        due(1, () -> x.count(3));
        yes(x.code(0, 3));
        due(2, () -> x.count(3));
        yes(x.code(0, 2));
        due(1, () -> x.count(3));
        for (int v = 1; v <= 18; v++) {
            yes(x.code(v, 50));
        }
        due(19, () -> x.count(3));
        no(x.code(19, 50));
        yes(x.code(0, 60));
        yes(x.code(18, 2));
        due(19, () -> x.count(3));
        no(x.code(19, 50));
        DeclareForms y = lodgedKind0(1);
        yes(y.code(5, 5));
        due(1, () -> y.count(3));
    }

    private static void day() {
        begin("9 day");
        DeclareForms x = new DeclareForms(0);
        no(x.day(-1));
        no(x.day(Integer.MIN_VALUE));
        no(x.day(100001));
        no(x.day(Integer.MAX_VALUE));
        yes(x.day(0));
        yes(x.day(7));
        yes(x.day(7));
        no(x.day(6));
        due(7, () -> x.count(5));
        yes(x.day(100000));
        no(x.day(99999));
        yes(x.day(100000));
        due(100000, () -> x.count(5));
        DeclareForms y = lodgedKind0(1);
        yes(y.day(4));
        due(4, () -> y.count(5));
    }

    // ---- promises 10 to 12

    private static void checkWanted() {
        begin("10 check, wanted fields");
        for (int kind = 0; kind <= 3; kind++) {
            DeclareForms x = withLines(kind, 3);
            x.remove(2);
            for (int l = 0; l <= 3; l++) {
                for (int i = 0; i < 10 && l != 2; i++) {
                    int f = l == 0 ? i : 10 + i;
                    if (x.need(f) == 0) {
                        int broken = 1000000 + 100 * l + f;
                        due(broken, x::check);
                        x.field(f, l, 0);
                    }
                }
            }
            // Kind 2 wants field 10, whose value 0 is no code yet.
            due(kind == 2 ? 4000110 : 0, x::check);
        }
        DeclareForms y = wholeKind0(30);
        due(0, y::check);
        y.clear(16, 30);
        due(1003016, y::check);
        y.clear(8, 0);
        due(1000008, y::check);
    }

    private static void checkSums() {
        begin("10 check, sums");
        DeclareForms x = wholeKind0(3);
        x.field(2, 0, 0);
        due(2000000, x::check);
        x.field(2, 0, 60);
        due(0, x::check);
        x.remove(2);
        due(2000000, x::check);
        x.field(2, 0, 40);
        due(0, x::check);
        x.field(3, 0, 1);
        due(3000000, x::check);
        x.field(3, 0, 0);
        due(0, x::check);
        // Kind 1: field 12 is allowed, so some lines may be without; 3 and 13 are its sum.
        DeclareForms y = withLines(1, 2);
        for (int f : new int[] {1, 5, 9}) {
            y.field(f, 0, 1);
        }
        for (int l = 1; l <= 2; l++) {
            y.field(13, l, 1000000000);
            y.field(17, l, 1);
        }
        due(0, y::check);
        y.field(3, 0, 1000000000);
        due(3000000, y::check);
        y.field(13, 2, 0);
        due(0, y::check);
        // A sum beyond 32 bits must not be cut to them.
        DeclareForms z = wholeKind0(5);
        for (int l = 1; l <= 5; l++) {
            z.field(12, l, 1000000000);
        }
        z.field(2, 0, 5000000000L - (1L << 32));
        due(2000000, z::check);
        // Kind 2 wants field 2 and allows 12: lines without it count 0.
        DeclareForms w = withLines(2, 2);
        w.field(2, 0, 8);
        w.field(6, 0, 1);
        for (int l = 1; l <= 2; l++) {
            w.field(10, l, 5);
            w.field(14, l, 5);
            w.field(18, l, 5);
        }
        w.code(5, 0);
        due(2000000, w::check);
        w.field(12, 2, 8);
        due(0, w::check);
    }

    private static void checkCodes() {
        begin("10 check, codes");
        DeclareForms x = wholeKind0(3);
        x.field(10, 1, 5);
        x.field(10, 3, 6);
        due(4000110, x::check);
        x.code(5, 10);
        due(4000310, x::check);
        x.code(6, 9);
        due(0, x::check);
        x.day(9);
        due(0, x::check);
        x.day(10);
        due(4000310, x::check);
        x.code(6, 10);
        due(0, x::check);
        x.day(11);
        due(4000110, x::check);
        x.remove(1);
        due(4000310, x::check);
        x.clear(10, 3);
        due(0, x::check);
        DeclareForms y = wholeKind0(30);
        y.field(10, 30, 5);
        due(4003010, y::check);
    }

    private static void checkOrder() {
        begin("10 check, the first broken thing");
        DeclareForms x = wholeKind0(1);
        x.field(2, 0, 1);
        x.field(3, 0, 1);
        x.field(10, 1, 1);
        x.clear(16, 1);
        due(1000116, x::check);
        x.field(16, 1, 1);
        due(2000000, x::check);
        x.clear(2, 0);
        due(3000000, x::check);
        x.clear(3, 0);
        due(4000110, x::check);
        x.field(2, 0, 1);
        x.remove(1);
        due(2000000, x::check);
        x.field(2, 0, 0);
        due(5000000, x::check);
        x.clear(4, 0);
        due(1000004, x::check);
    }

    private static void lodge() {
        begin("11 lodge");
        DeclareForms x = wholeKind0(1);
        x.clear(0, 0);
        due(0, x::lodge);
        due(0, () -> x.count(2));
        x.field(0, 0, 4);
        due(1, x::lodge);
        due(1, () -> x.count(2));
        due(0, x::lodge);
        due(1, () -> x.count(2));
        DeclareForms y = wholeKind0(0);
        due(5000000, y::check);
        due(0, y::lodge);
    }

    private static void lodgedFormStays() {
        begin("11 what is lodged stays");
        DeclareForms x = wholeKind0(2);
        x.paper(4, 10);
        x.draw(1, 4, 3);
        x.lodge();
        String before = stateOf(x);
        due(ILLEGAL_STATE, x::line);
        due(-1, () -> x.remove(1));
        due(0, () -> x.field(2, 0, 30));
        due(0, () -> x.field(1, 0, 30));
        no(x.clear(8, 0));
        due(-1, () -> x.draw(1, 4, 1));
        due(0, x::lodge);
        same(before, x);
        // Promise 13 tells no refusal for it: a further paper leaves those that are there alone.
        yes(x.paper(5, 1));
        due(7, () -> x.count(104));
    }

    private static void amend() {
        begin("12 amend");
        DeclareForms x = wholeKind0(2);
        due(ILLEGAL_STATE, () -> x.amend(4, 0, 3));
        due(ILLEGAL_STATE, () -> x.amend(3, 0, 3));
        due(ILLEGAL_STATE, () -> x.amend(1, 0, 3));
        due(ILLEGAL_ARGUMENT, () -> x.amend(4, 0, -1));
        due(ILLEGAL_ARGUMENT, () -> x.amend(4, 1, 1));
        x.remove(2);
        x.lodge();
        String before = stateOf(x);
        due(ILLEGAL_ARGUMENT, () -> x.amend(4, 0, -1));
        due(ILLEGAL_ARGUMENT, () -> x.amend(4, 0, 1000000001));
        due(ILLEGAL_ARGUMENT, () -> x.amend(4, 0, Long.MAX_VALUE));
        due(ILLEGAL_ARGUMENT, () -> x.amend(3, 0, -1));
        due(ILLEGAL_ARGUMENT, () -> x.amend(4, 1, 1));
        due(ILLEGAL_ARGUMENT, () -> x.amend(16, 0, 1));
        due(ILLEGAL_ARGUMENT, () -> x.amend(16, 2, 1));
        due(ILLEGAL_ARGUMENT, () -> x.amend(20, 1, 1));
        for (int e : EDGES) {
            due(ILLEGAL_ARGUMENT, () -> x.amend(e, 0, 1));
            due(ILLEGAL_ARGUMENT, () -> x.amend(16, e, 1));
        }
        for (int f : new int[] {0, 3, 6, 9}) {
            due(0, () -> x.amend(f, 0, 0));
        }
        for (int f : new int[] {12, 15, 18}) {
            due(0, () -> x.amend(f, 1, 10));
        }
        due(0, () -> x.amend(1, 0, 1));
        due(0, () -> x.amend(5, 0, 1));
        due(0, () -> x.amend(13, 1, 1));
        due(0, () -> x.amend(17, 1, 1));
        same(before, x);
        due(1, () -> x.amend(4, 0, 0));
        due(0, () -> x.value(4, 0));
        due(1, () -> x.amend(8, 0, 1000000000));
        due(1, () -> x.amend(16, 1, 77));
        due(77, () -> x.value(16, 1));
        due(5, () -> x.count(1));
        due(1, () -> x.amend(7, 0, 2));
        due(1, () -> x.amend(19, 1, 2));
        due(7, () -> x.count(1));
        due(1, () -> x.count(2));
    }

    private static void amendAndCheck() {
        begin("12 amend only so that check finds nothing");
        DeclareForms x = lodgedKind0(2);
        due(0, () -> x.amend(2, 0, 29));
        due(-1, () -> x.value(2, 0));
        due(7, () -> x.count(1));
        due(1, () -> x.amend(2, 0, 30));
        due(0, () -> x.amend(2, 0, 31));
        due(30, () -> x.value(2, 0));
        due(0, () -> x.amend(10, 2, 5));
        due(-1, () -> x.value(10, 2));
        x.code(5, 3);
        x.code(6, 9);
        due(1, () -> x.amend(10, 2, 5));
        x.day(4);
        due(4000210, x::check);
        due(0, () -> x.amend(4, 0, 8));
        due(1, () -> x.value(4, 0));
        due(0, () -> x.amend(10, 1, 6));
        due(1, () -> x.amend(10, 2, 6));
        due(1, () -> x.amend(4, 0, 8));
        due(0, x::check);
    }

    // ---- promises 13 to 15

    private static void paper() {
        begin("13 paper");
        DeclareForms x = new DeclareForms(0);
        no(x.paper(0, 1));
        no(x.paper(-1, 1));
        no(x.paper(Integer.MIN_VALUE, 1));
        no(x.paper(1000001, 1));
        no(x.paper(Integer.MAX_VALUE, 1));
        no(x.paper(1, -1));
        no(x.paper(1, Integer.MIN_VALUE));
        no(x.paper(1, 1000001));
        no(x.paper(1, Integer.MAX_VALUE));
        due(0, () -> x.count(4));
        yes(x.paper(1, 0));
        yes(x.paper(1000000, 1000000));
        no(x.paper(1, 5));
        due(0, () -> x.count(101));
        due(1000000, () -> x.count(1000100));
        for (int number = 2; number <= 19; number++) {
            yes(x.paper(number, number));
        }
        due(20, () -> x.count(4));
        no(x.paper(20, 1));
        no(x.paper(19, 1));
        due(19, () -> x.count(119));
        due(-1, () -> x.count(120));
    }

    private static void draw() {
        begin("14 draw");
        DeclareForms x = withLines(0, 3);
        x.paper(7, 10);
        x.paper(8, 1000000);
        String before = stateOf(x);
        due(ILLEGAL_ARGUMENT, () -> x.draw(0, 7, 1));
        due(ILLEGAL_ARGUMENT, () -> x.draw(4, 7, 1));
        due(ILLEGAL_ARGUMENT, () -> x.draw(31, 7, 1));
        due(ILLEGAL_ARGUMENT, () -> x.draw(1, 9, 1));
        due(ILLEGAL_ARGUMENT, () -> x.draw(1, 0, 1));
        due(ILLEGAL_ARGUMENT, () -> x.draw(1, 7, 0));
        due(ILLEGAL_ARGUMENT, () -> x.draw(1, 8, 1000001));
        for (int e : EDGES) {
            due(ILLEGAL_ARGUMENT, () -> x.draw(e, 7, 1));
            due(ILLEGAL_ARGUMENT, () -> x.draw(1, e, 1));
            due(ILLEGAL_ARGUMENT, () -> x.draw(1, 7, e));
        }
        due(-1, () -> x.draw(1, 7, 11));
        same(before, x);
        due(0, () -> x.draw(3, 8, 1000000));
        due(-1, () -> x.draw(3, 8, 1));
        due(9, () -> x.draw(1, 7, 1));
        due(7, () -> x.draw(1, 7, 2));
        due(3, () -> x.draw(2, 7, 4));
        due(-1, () -> x.draw(2, 7, 4));
        due(0, () -> x.draw(2, 7, 3));
        due(0, () -> x.count(107));
        x.remove(1);
        due(3, () -> x.count(107));
        due(0, () -> x.count(108));
        due(ILLEGAL_ARGUMENT, () -> x.draw(1, 7, 1));
        due(2, () -> x.draw(3, 7, 1));
        x.remove(3);
        due(3, () -> x.count(107));
        due(1000000, () -> x.count(108));
        x.remove(2);
        due(10, () -> x.count(107));
        DeclareForms y = wholeKind0(1);
        y.paper(7, 10);
        y.lodge();
        due(-1, () -> y.draw(1, 7, 1));
        due(ILLEGAL_ARGUMENT, () -> y.draw(1, 8, 1));
        due(ILLEGAL_ARGUMENT, () -> y.draw(2, 7, 1));
        due(ILLEGAL_ARGUMENT, () -> y.draw(1, 7, 0));
        due(10, () -> y.count(107));
        DeclareForms z = withLines(0, 30);
        for (int number = 1; number <= 20; number++) {
            z.paper(number, 5);
        }
        due(4, () -> z.draw(30, 20, 1));
        due(3, () -> z.draw(29, 20, 1));
        z.draw(28, 1, 2);
        z.draw(28, 19, 3);
        z.remove(30);
        due(4, () -> z.count(120));
        z.remove(29);
        due(5, () -> z.count(120));
        due(3, () -> z.count(101));
        z.remove(28);
        due(5, () -> z.count(101));
        due(5, () -> z.count(119));
    }

    private static void sum() {
        begin("15 sum");
        DeclareForms x = withLines(0, 30);
        due(ILLEGAL_ARGUMENT, () -> x.sum(9));
        due(ILLEGAL_ARGUMENT, () -> x.sum(0));
        due(ILLEGAL_ARGUMENT, () -> x.sum(20));
        for (int e : EDGES) {
            due(ILLEGAL_ARGUMENT, () -> x.sum(e));
        }
        due(0, () -> x.sum(12));
        for (int l = 1; l <= 30; l++) {
            x.field(12, l, 1000000000);
        }
        x.field(10, 4, 3);
        x.field(10, 9, 4);
        x.field(19, 30, 6);
        due(30000000000L, () -> x.sum(12));
        due(7, () -> x.sum(10));
        due(6, () -> x.sum(19));
        due(0, () -> x.sum(13));
        x.remove(9);
        due(29000000000L, () -> x.sum(12));
        due(3, () -> x.sum(10));
        x.clear(10, 4);
        due(0, () -> x.sum(10));
    }

    // ---- promises 16 to 18

    private static void pack() {
        begin("16 pack");
        DeclareForms x = withLines(0, 2);
        due(3, x::pack);
        x.field(0, 0, 1);
        due(9, x::pack);
        x.field(1, 0, 1);
        due(9, x::pack);
        x.field(0, 0, 2);
        due(9, x::pack);
        x.field(10, 2, 1);
        x.field(11, 2, 1);
        due(21, x::pack);
        x.clear(0, 0);
        due(15, x::pack);
        x.remove(2);
        due(3, x::pack);
    }

    private static void octet() {
        begin("17 octet");
        DeclareForms x = withLines(3, 3);
        x.field(19, 1, 0x3B9ACA00);
        x.field(10, 3, 0x01808182);
        x.field(9, 0, 255);
        x.field(1, 0, 0);
        int[] want = {3, 0, 4, 1, 0, 0, 0, 0, 0, 9, 0, 0, 0, 0, 255,
            19, 1, 0x3B, 0x9A, 0xCA, 0, 10, 3, 1, 0x80, 0x81, 0x82};
        for (int i = 0; i < want.length; i++) {
            int asked = i;
            due((byte) want[i], () -> x.octet(asked));
        }
        due(want.length, x::pack);
        due(OUT_OF_BOUNDS, () -> x.octet(want.length));
        for (int e : EDGES) {
            due(OUT_OF_BOUNDS, () -> x.octet(e));
        }
        x.remove(1);
        due(3, () -> x.octet(2));
        due(10, () -> x.octet(15));
        due(OUT_OF_BOUNDS, () -> x.octet(21));
        x.field(9, 0, 256);
        due(1, () -> x.octet(13));
        due(0, () -> x.octet(14));
        DeclareForms full = withLines(1, 30);
        for (int l = 1; l <= 30; l++) {
            for (int f = 10; f <= 19; f++) {
                full.field(f, l, l);
            }
        }
        // Kind 1 forbids 10, 14 and 18 of the ten: 210 are set, told in the lower byte alone.
        due(0, () -> full.octet(1));
        due((byte) 210, () -> full.octet(2));
        due(30, () -> full.octet(full.pack() - 1));
        // Kind 0 forbids 13 and 17 alone: 240 and the head's 7.
        DeclareForms most = withLines(0, 30);
        for (int l = 0; l <= 30; l++) {
            for (int f = 0; f < 10; f++) {
                most.field(l == 0 ? f : 10 + f, l, 1);
            }
        }
        due((byte) 247, () -> most.octet(2));
        due(3 + 6 * 247, most::pack);
    }

    private static void read() {
        begin("18 read, rows and kinds");
        DeclareForms x = new DeclareForms(2);
        for (int kind = 0; kind <= 3; kind++) {
            row(x, 1, kind, 0, 0);
        }
        row(x, -1, 4);
        row(x, -1, 127);
        row(x, -1, 128);
        row(x, -1, 255);
        due(4, () -> x.count(7));
        row(x, 1, 0, 0, 1, 0, 0, 0, 0, 0, 0);
        due(5, () -> x.count(7));
        due(1, () -> x.count(8));
        row(x, -1, 0, 0, 1, 99);
        due(5, () -> x.count(7));
        due(1, () -> x.count(8));
        row(x, 1, 0, 0, 0);
        due(0, () -> x.count(8));
        due(2, () -> x.count(6));
        due(0, () -> x.count(1));
        DeclareForms y = lodgedKind0(1);
        row(y, 1, 3, 0, 0);
        due(1, () -> y.count(7));
    }

    private static void readCounts() {
        begin("18 read, how many fields");
        DeclareForms x = new DeclareForms(0);
        row(x, -1, 0, 3);
        row(x, -1, 0, 128);
        row(x, -1, 0, 255);
        row(x, -1, 0, 2, 99);
        row(x, -1, 0, 2, 255);
        row(x, -1, 0, 2, 98, 20);
        row(x, -1, 0, 1, 255, 20);
        row(x, -1, 0, 0, 255, 20);
        row(x, 1, 0, 0, 2, 0, 0, 0, 0, 0, 1, 2, 0, 0, 0, 0, 2);
        due(2, () -> x.count(8));
    }

    private static void readFields() {
        begin("18 read, fields and lines");
        DeclareForms x = new DeclareForms(0);
        row(x, -1, 0, 0, 1, 20);
        row(x, -1, 0, 0, 1, 128);
        row(x, -1, 0, 0, 1, 255);
        row(x, -1, 0, 0, 1, 8, 1);
        row(x, -1, 0, 0, 1, 8, 255);
        row(x, -1, 0, 0, 1, 10, 0);
        row(x, -1, 0, 0, 1, 10, 31);
        row(x, -1, 0, 0, 1, 10, 128);
        row(x, -1, 0, 0, 1, 10, 255);
        row(x, 1, 0, 0, 1, 10, 1, 0, 0, 0, 0);
        row(x, 1, 0, 0, 1, 19, 30, 0, 0, 0, 0);
        row(x, 1, 0, 0, 1, 8, 0, 0, 0, 0, 0);
        row(x, 1, 3, 0, 1, 9, 0, 0, 0, 0, 0);
    }

    private static void readOrder() {
        begin("18 read, each behind the one before");
        DeclareForms x = new DeclareForms(0);
        row(x, -1, 0, 0, 2, 4, 0, 0, 0, 0, 0, 4, 0);
        row(x, -1, 0, 0, 2, 4, 0, 0, 0, 0, 0, 3, 0);
        row(x, -1, 0, 0, 2, 10, 1, 0, 0, 0, 0, 8, 0);
        row(x, -1, 0, 0, 2, 12, 2, 0, 0, 0, 0, 12, 2);
        row(x, -1, 0, 0, 2, 12, 2, 0, 0, 0, 0, 11, 2);
        row(x, -1, 0, 0, 2, 12, 2, 0, 0, 0, 0, 19, 1);
        row(x, 1, 0, 0, 2, 12, 2, 0, 0, 0, 0, 10, 3, 0, 0, 0, 0);
        row(x, 1, 0, 0, 2, 12, 2, 0, 0, 0, 0, 14, 2, 0, 0, 0, 0);
        row(x, 1, 0, 0, 2, 8, 0, 0, 0, 0, 0, 10, 1, 0, 0, 0, 0);
        // The one before is the row's own, not that of an earlier row.
        row(x, 1, 0, 0, 1, 19, 30, 0, 0, 0, 0);
        row(x, 1, 0, 0, 1, 0, 0, 0, 0, 0, 0);
        row(x, -1, 0, 0, 2, 19, 30, 0, 0, 0, 0, 19, 30);
        row(x, 1, 0, 0, 1, 0, 0, 0, 0, 0, 0);
    }

    private static void readForbidden() {
        begin("18 read, forbidden by the row's kind");
        // The form's own kind does not matter to the reader.
        for (int own = 0; own <= 3; own++) {
            for (int kind = 0; kind <= 3; kind++) {
                DeclareForms x = new DeclareForms(own);
                for (int f = 0; f <= 19; f++) {
                    int line = f < 10 ? 0 : 1;
                    if (new DeclareForms(kind).need(f) == 3) {
                        row(x, -1, kind, 0, 1, f);
                    } else {
                        row(x, 1, kind, 0, 1, f, line, 0, 0, 0, 1);
                    }
                }
            }
        }
    }

    private static void readValues() {
        begin("18 read, values");
        DeclareForms x = new DeclareForms(0);
        row(x, 1, 0, 0, 1, 0, 0, 0x3B, 0x9A, 0xCA, 0x00);
        row(x, -1, 0, 0, 1, 0, 0, 0x3B, 0x9A, 0xCA, 0x01);
        row(x, -1, 0, 0, 1, 0, 0, 255, 255, 255, 255);
        row(x, -1, 0, 0, 1, 0, 0, 128, 0, 0, 0);
        row(x, -1, 0, 0, 1, 0, 0, 0x3C, 0, 0, 0);
        row(x, 1, 0, 0, 1, 0, 0, 0, 255, 255, 255);
        row(x, -1, 0, 0, 2, 0, 0, 0x3B, 0x9A, 0xCA, 0, 2, 0, 0x3B, 0x9A, 0xCA, 1);
        row(x, 1, 0, 0, 2, 0, 0, 0x3B, 0x9A, 0xCA, 0, 2, 0, 0x3B, 0x9A, 0xCA, 0);
    }

    private static void readOwnPacking() {
        begin("18 read, what was packed");
        for (int kind = 0; kind <= 3; kind++) {
            DeclareForms x = withLines(kind, 3);
            x.remove(2);
            for (int f = 0; f < 10; f++) {
                x.field(f, 0, 1000000000 - f);
                x.field(10 + f, 1, f);
                x.field(10 + f, 3, 0xFFFFFF - f);
            }
            int bytes = x.pack();
            for (int i = 0; i < bytes; i++) {
                byte b = x.octet(i);
                due(i == bytes - 1 ? 1 : 0, () -> x.read(b));
            }
            due(x.count(1), () -> x.count(8));
            due(1, () -> x.count(7));
        }
    }

    // ---- promise 19

    private static void count() {
        begin("19 count");
        DeclareForms x = wholeKind0(3);
        x.remove(1);
        x.code(4, 5);
        x.code(5, 6);
        x.paper(1, 11);
        x.paper(1000000, 12);
        x.day(6);
        row(x, 1, 0, 0, 1, 0, 0, 0, 0, 0, 0);
        row(x, 1, 0, 0, 2, 0, 0, 0, 0, 0, 0, 10, 1, 0, 0, 0, 0);
        int[] want = {2, 7, 0, 1, 2, 6, 0, 2, 2};
        for (int what = 0; what < want.length; what++) {
            int asked = what;
            due(want[what], () -> x.count(asked));
        }
        x.lodge();
        due(1, () -> x.count(2));
        due(11, () -> x.count(101));
        due(12, () -> x.count(1000100));
        for (int what : new int[] {-1, -100, 9, 10, 99, 100, 102, 1000101,
            Integer.MIN_VALUE, Integer.MAX_VALUE}) {
            due(-1, () -> x.count(what));
        }
    }
}
