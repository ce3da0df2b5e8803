import java.util.List;
import java.util.function.Function;

/** Ways to look at a form, each of which tells as text what it saw. */
final class Probes {
    static final List<Function<Form, String>> ALL = List.of(Probes::asked, Probes::values,
            Probes::lines, Probes::removals, Probes::days, Probes::codes, Probes::papers,
            Probes::bytes, Probes::lodging);

    private static final int[] NUMBERS = {1, 2, 7, 8, 9, 20, 21, 1000000};

    private static String asked(Form x) {
        StringBuilder s = new StringBuilder("asked");
        for (int what = -1; what <= 9; what++) {
            add(s, x.count(what));
        }
        for (int f = 10; f <= 19; f++) {
            add(s, x.sum(f));
        }
        add(s, x.check());
        long bytes = x.pack();
        add(s, bytes);
        for (int i = 0; i < bytes && i < 120; i++) {
            add(s, x.octet(i));
        }
        return balances(x, s);
    }

    private static String values(Form x) {
        StringBuilder s = new StringBuilder("values");
        for (int f = 0; f <= 9; f++) {
            add(s, x.value(f, 0));
            for (int line = 1; line <= 30; line++) {
                add(s, x.value(10 + f, line));
            }
        }
        return s.toString();
    }

    private static String lines(Form x) {
        StringBuilder s = new StringBuilder("lines");
        for (int i = 0; i <= 30; i++) {
            add(s, x.line());
        }
        add(s, x.count(0));
        for (int line = 1; line <= 30; line++) {
            add(s, x.field(19, line, 3));
            add(s, x.clear(19, line));
        }
        return s.toString();
    }

    private static String removals(Form x) {
        StringBuilder s = new StringBuilder("removals");
        for (int line = 1; line <= 30; line++) {
            add(s, x.remove(line));
            if (line <= 4 || line >= 29) {
                balances(x, s);
            }
        }
        return s.toString();
    }

    private static String days(Form x) {
        StringBuilder s = new StringBuilder("days");
        for (int day = 0; day <= 20; day++) {
            add(s, x.day(day));
            add(s, x.count(3));
            add(s, x.check());
        }
        for (int day = 99999; day <= 100000; day++) {
            add(s, x.day(day));
            add(s, x.count(3));
        }
        return s.toString();
    }

    private static String codes(Form x) {
        StringBuilder s = new StringBuilder("codes");
        for (int i = 0; i <= 20; i++) {
            add(s, x.code(5000 + i, 100000));
        }
        add(s, x.count(3));
        for (int v = 0; v <= 30; v++) {
            add(s, x.code(v, 100000));
        }
        add(s, x.count(3));
        return s.toString();
    }

    private static String papers(Form x) {
        StringBuilder s = new StringBuilder("papers");
        for (int number : NUMBERS) {
            add(s, x.draw(1, number, 1));
            add(s, x.draw(3, number, 1));
        }
        for (int i = 0; i <= 20; i++) {
            add(s, x.paper(500 + i, 1));
        }
        add(s, x.count(4));
        return balances(x, s);
    }

    /** Ends a row that is under way, whatever comes next there, and then reads others. */
    private static String bytes(Form x) {
        StringBuilder s = new StringBuilder("bytes");
        int[] coming = {2, 0, 59, 154, 202, 0, 4, 0, 0, 0, 0, 1, 0, 0, 1, 10, 30, 0, 0, 0, 7,
            3, 0, 2, 9, 0, 0, 0, 1, 0, 10, 1, 59, 154, 202, 1, 0, 0, 0};
        for (int b : coming) {
            add(s, x.read(b));
            add(s, x.count(7));
            add(s, x.count(8));
        }
        return s.toString();
    }

    private static String lodging(Form x) {
        StringBuilder s = new StringBuilder("lodging");
        add(s, x.lodge());
        add(s, x.count(2));
        for (int f = 0; f <= 9; f++) {
            add(s, x.amend(f, 0, 4));
            add(s, x.amend(10 + f, 1, 77));
        }
        add(s, x.count(1));
        add(s, x.check());
        add(s, x.lodge());
        return s.toString();
    }

    private static String balances(Form x, StringBuilder s) {
        for (int number : NUMBERS) {
            add(s, x.count(100 + number));
        }
        return s.toString();
    }

    private static void add(StringBuilder s, long answer) {
        s.append(' ').append(answer);
    }

    private Probes() {
    }
}
