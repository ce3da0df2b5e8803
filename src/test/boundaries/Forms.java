/** Forms to begin a test with. */
final class Forms {
    /** For each kind what each of four fields that follow one another is; so on from field 4. */
    private static final String[] NEEDS = {"0321", "1032", "2103", "3210"};

    static final int[] FAR = {Integer.MIN_VALUE, Integer.MIN_VALUE + 1, Integer.MAX_VALUE};

    static int need(int kind, int f) {
        return NEEDS[kind].charAt(f % 4) - '0';
    }

    static Form withLines(int kind, int lines) {
        Form x = new Form(kind);
        for (int i = 0; i < lines; i++) {
            x.line();
        }
        return x;
    }

    /** All WANTED fields are 0, and 0 is a code: but for lines, if there is none, CHECK is 0. */
    static Form whole(int kind, int lines) {
        Form x = withLines(kind, lines);
        x.code(0, 100000);
        for (int line = 0; line <= lines; line++) {
            for (int i = 0; i <= 9; i++) {
                int f = line == 0 ? i : 10 + i;
                if (need(kind, f) == 0) {
                    x.field(f, line, 0);
                }
            }
        }
        return x;
    }

    static Form lodged(int kind, int lines) {
        Form x = whole(kind, lines);
        Trial.due(1, x.lodge());
        return x;
    }

    /** Something of everything: lines 1, 3 and 4, sums, codes, papers, TODAY 3, half a row read. */
    static Form busy() {
        Form x = whole(0, 4);
        x.field(12, 1, 40);
        x.field(12, 3, 2);
        x.field(2, 0, 42);
        x.field(10, 3, 77);
        x.field(19, 1, 1000000000);
        x.code(77, 10);
        x.code(78, 3);
        x.code(79, 5);
        x.paper(7, 10);
        x.paper(8, 1000000);
        x.paper(9, 0);
        x.draw(1, 7, 4);
        x.draw(2, 7, 3);
        x.draw(3, 7, 1);
        x.draw(3, 8, 999999);
        x.remove(2);
        x.day(3);
        for (int b : new int[] {1, 0, 1, 1, 0, 0, 0, 0, 9, 0, 0, 2, 0, 0, 0, 0, 0, 5}) {
            x.read(b);
        }
        return x;
    }

    static Form busyLodged() {
        Form x = busy();
        Trial.due(1, x.lodge());
        return x;
    }

    private Forms() {
    }
}
