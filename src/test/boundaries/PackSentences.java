import java.util.function.Supplier;

/** The packed form: the term, and promises 16 and 17. */
final class PackSentences {
    private static final String PACKED = "PACKED: bytes, 0 .. 255 each as -128 .. 127 is told: "
            + "the kind; how many fields are set (two bytes, the higher first); then each of them, "
            + "head first, lines by number, fields ascending: field, line, four bytes of the "
            + "value, the highest first.";

    @Sentence(of = "Terms", says = PACKED)
    static void bytesOfAValueComeRound() {
        long[] values = {0, 1, 127, 128, 255, 256, 32767, 32768, 65535, 65536, 8388607, 8388608,
            16777215, 16777216, 0x3B9AC9FF, 1000000000};
        Form x = new Form(0);
        for (long v : values) {
            x.field(0, 0, v);
            for (int i = 0; i < 4; i++) {
                Trial.due(toldAs(v >> (24 - 8 * i)), x.octet(5 + i));
            }
        }
    }

    @Sentence(of = "Terms", says = PACKED)
    static void howManyAreSetComesRound() {
        // Kind 0 leaves eight fields to a line, so sixteen lines have 128.
        Form x = Forms.withLines(0, 16);
        int set = 0;
        for (int line = 1; line <= 16; line++) {
            for (int f = 10; f <= 19; f++) {
                set += x.field(f, line, 0) == 1 ? 1 : 0;
                if (set == 127) {
                    Trial.due(0, x.octet(1));
                    Trial.due(127, x.octet(2));
                }
            }
        }
        Trial.due(128, set);
        Trial.due(0, x.octet(1));
        Trial.due(-128, x.octet(2));
        Trial.due(3 + 6 * 128, x.pack());
    }

    @Sentence(of = "Terms", says = PACKED)
    static void nothingSetIsThreeBytes() {
        for (int kind = 0; kind <= 3; kind++) {
            Form x = Forms.withLines(kind, 30);
            Trial.due(3, x.pack());
            Trial.due(kind, x.octet(0));
            Trial.due(0, x.octet(1));
            Trial.due(0, x.octet(2));
            Trial.due(Form.BOUNDS, x.octet(3));
        }
    }

    @Sentence(of = "Terms", says = PACKED)
    static void headFirstThenLinesThenFields() {
        Form x = Forms.withLines(3, 30);
        x.remove(2);
        x.field(19, 30, 8);
        x.field(10, 30, 7);
        x.field(10, 3, 6);
        x.field(19, 1, 5);
        x.field(10, 1, 4);
        x.field(9, 0, 3);
        x.field(1, 0, 2);
        int[] fields = {1, 9, 10, 19, 10, 10, 19};
        int[] lines = {0, 0, 1, 1, 3, 30, 30};
        Trial.due(3, x.octet(0));
        Trial.due(0, x.octet(1));
        Trial.due(7, x.octet(2));
        for (int i = 0; i < 7; i++) {
            Trial.due(fields[i], x.octet(3 + 6 * i));
            Trial.due(lines[i], x.octet(4 + 6 * i));
            Trial.due(0, x.octet(5 + 6 * i));
            Trial.due(0, x.octet(6 + 6 * i));
            Trial.due(0, x.octet(7 + 6 * i));
            Trial.due(2 + i, x.octet(8 + 6 * i));
        }
        Trial.due(Form.BOUNDS, x.octet(45));
    }

    @Sentence(of = "Promise 16", says = "PACKED: how many bytes.")
    static void howManyBytes() {
        Form x = Forms.withLines(0, 30);
        Trial.due(3, x.pack());
        long set = 0;
        for (int f = 0; f <= 9; f++) {
            set += x.field(f, 0, 0);
            for (int line = 1; line <= 30; line++) {
                set += x.field(10 + f, line, 0);
            }
            Trial.due(3 + 6 * set, x.pack());
        }
        // The most that a form can have: kind 0 forbids three of the head and two of each line.
        Trial.due(7 + 30 * 8, set);
        Trial.due(-9, x.octet(2));
        Trial.due(1, x.field(0, 0, 5));
        Trial.due(0, x.field(1, 0, 5));
        Trial.due(3 + 6 * 247, x.pack());
        Trial.due(1, x.clear(0, 0));
        Trial.due(3 + 6 * 246, x.pack());
        Trial.due(8, x.remove(30));
        Trial.due(3 + 6 * 238, x.pack());
    }

    @Sentence(of = "Promise 16", says = "PACKED: how many bytes.")
    static void packChangesNothing() {
        Trial.refused(3, () -> new Form(0), Form::pack);
        Trial.refused(3 + 6 * 12, Forms::busy, Form::pack);
        Trial.refused(3 + 6 * 12, Forms::busyLodged, Form::pack);
    }

    @Sentence(of = "Promise 17", says = "Byte i of it as it is now.")
    static void asItIsNow() {
        Form x = Forms.withLines(0, 2);
        x.field(10, 1, 1);
        x.field(10, 2, 2);
        Trial.due(15, x.pack());
        Trial.due(10, x.octet(3));
        Trial.due(1, x.octet(8));
        x.field(10, 1, 128);
        Trial.due(-128, x.octet(8));
        x.field(0, 0, 3);
        Trial.due(3, x.octet(2));
        Trial.due(0, x.octet(3));
        Trial.due(3, x.octet(8));
        Trial.due(-128, x.octet(14));
        x.remove(1);
        Trial.due(2, x.octet(2));
        Trial.due(2, x.octet(10));
        Trial.due(2, x.octet(14));
        x.clear(0, 0);
        Trial.due(1, x.octet(2));
        Trial.due(2, x.octet(8));
        Form y = Forms.lodged(0, 1);
        Trial.due(0, y.octet(14));
        y.amend(4, 0, 255);
        Trial.due(-1, y.octet(14));
    }

    @Sentence(of = "Promise 17", says = "IndexOutOfBoundsException if there is none such.")
    static void noSuchByte() {
        Form x = Forms.busy();
        int bytes = (int) x.pack();
        Trial.due(0, x.octet(0));
        Trial.due(0, x.octet(bytes - 1));
        for (int i : new int[] {-1, bytes, bytes + 1, 10000}) {
            Trial.refused(Form.BOUNDS, Forms::busy, y -> y.octet(i));
            Trial.refused(Form.BOUNDS, Forms::busyLodged, y -> y.octet(i));
        }
        for (int i : Forms.FAR) {
            Trial.refused(Form.BOUNDS, Forms::busy, y -> y.octet(i));
        }
        Supplier<Form> empty = () -> new Form(2);
        Trial.due(2, empty.get().octet(0));
        Trial.due(0, empty.get().octet(2));
        Trial.refused(Form.BOUNDS, empty, y -> y.octet(3));
        Trial.refused(Form.BOUNDS, empty, y -> y.octet(-1));
        // A byte that was there is gone with the field.
        Form z = Forms.busy();
        Trial.due(1, z.clear(19, 1));
        Trial.due(0, z.octet(bytes - 7));
        Trial.due(Form.BOUNDS, z.octet(bytes - 6));
    }

    private static long toldAs(long number) {
        long low = number & 255;
        return low < 128 ? low : low - 256;
    }

    private PackSentences() {
    }
}
