import java.util.function.LongSupplier;

/**
 * A DeclareForms whose every answer is a number, an exception too, and whose calls are counted:
 * what it answers beyond 512 calls is free, so no test may lean on it.
 */
final class Form {
    static final long ARGUMENT = -1001;
    static final long STATE = -1002;
    static final long BOUNDS = -1003;
    static final long UNDUE = -1009;
    static final int MOST_CALLS = 512;

    private final DeclareForms form;
    private int calls;

    Form(int kind) {
        form = new DeclareForms(kind);
    }

    long line() {
        return answer(() -> form.line());
    }

    long remove(int line) {
        return answer(() -> form.remove(line));
    }

    long field(int f, int line, long v) {
        return answer(() -> form.field(f, line, v));
    }

    long clear(int f, int line) {
        return answer(() -> form.clear(f, line) ? 1 : 0);
    }

    long value(int f, int line) {
        return answer(() -> form.value(f, line));
    }

    long need(int f) {
        return answer(() -> form.need(f));
    }

    long code(long v, int until) {
        return answer(() -> form.code(v, until) ? 1 : 0);
    }

    long day(int day) {
        return answer(() -> form.day(day) ? 1 : 0);
    }

    long check() {
        return answer(() -> form.check());
    }

    long lodge() {
        return answer(() -> form.lodge());
    }

    long amend(int f, int line, long v) {
        return answer(() -> form.amend(f, line, v));
    }

    long paper(int number, int balance) {
        return answer(() -> form.paper(number, balance) ? 1 : 0);
    }

    long draw(int line, int number, int n) {
        return answer(() -> form.draw(line, number, n));
    }

    long sum(int f) {
        return answer(() -> form.sum(f));
    }

    long pack() {
        return answer(() -> form.pack());
    }

    long octet(int i) {
        return answer(() -> form.octet(i));
    }

    /** Takes the byte as 0 .. 255. */
    long read(int b) {
        return answer(() -> form.read((byte) b));
    }

    long count(int what) {
        return answer(() -> form.count(what));
    }

    private long answer(LongSupplier call) {
        calls++;
        if (calls > MOST_CALLS) {
            Trial.fail("the test itself makes more than 512 calls on one object");
        }
        try {
            return call.getAsLong();
        } catch (RuntimeException e) {
            return numberOf(e.getClass());
        }
    }

    /** The very class: what the machine throws is often a class below a promised one. */
    private static long numberOf(Class<?> thrown) {
        if (thrown == IllegalArgumentException.class) {
            return ARGUMENT;
        }
        if (thrown == IllegalStateException.class) {
            return STATE;
        }
        if (thrown == IndexOutOfBoundsException.class) {
            return BOUNDS;
        }
        Trial.fail("threw " + thrown.getName() + ", which no call may");
        return UNDUE;
    }
}
