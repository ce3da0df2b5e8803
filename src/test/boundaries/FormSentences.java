import java.util.function.Supplier;

/** Lines and fields: the terms that tell their bounds, and promises 1 to 7. */
final class FormSentences {
    private static final String LINES = "LINES get the numbers 1, 2, .. as they are made (30 at "
            + "most in all); one that is REMOVED is no more, its number comes never again.";
    private static final String LINE_THROWS =
            "IllegalStateException if there were 30, or it is LODGED.";
    private static final String REMOVE = "A line is REMOVED: fields that were set in it; NONE if "
            + "there is none such, or it is LODGED.";
    private static final String FIELD = "A FIELD is SET: 1; 0 if it is FORBIDDEN, or it is LODGED.";
    private static final String FIELD_THROWS = "IllegalArgumentException if there is no such field "
            + "in that line, or no such line or value.";
    private static final String CLEAR = "A field is not set any more: true; false if it is not, "
            + "there is none such, or it is LODGED.";
    private static final String VALUE_THROWS = "IllegalArgumentException if there is no such field "
            + "in that line, or no such line.";

    private static final long[] NO_VALUES = {-1, -2, 1000000001, 2147483648L, 1L << 32,
        (1L << 32) + 5, Long.MIN_VALUE, Long.MIN_VALUE + 5, Long.MAX_VALUE};

    // ---- terms

    @Sentence(of = "Terms", says = "KINDS 0 .. 3.")
    static void kindsEndAtThree() {
        for (int kind = 0; kind <= 3; kind++) {
            Trial.due(kind, new Form(kind).count(6));
            Trial.row(new Form(0), 1, kind, 0, 0);
        }
        Trial.due(0, new Form(-1).count(6));
        Trial.due(3, new Form(4).count(6));
        Trial.row(new Form(0), -1, 4);
        Trial.row(new Form(0), -1, 255);
    }

    @Sentence(of = "Terms",
            says = "FIELDS 0 .. 9 are of the HEAD (line 0), 10 .. 19 of LINES 1 .. 30.")
    static void fieldsOfHeadAndLines() {
        for (int f = -1; f <= 20; f++) {
            Form x = Forms.withLines(0, 30);
            for (int line = -1; line <= 31; line++) {
                boolean ofHead = line == 0 && f >= 0 && f <= 9;
                boolean ofLine = line >= 1 && line <= 30 && f >= 10 && f <= 19;
                Trial.due(ofHead || ofLine ? -1 : Form.ARGUMENT, x.value(f, line));
            }
        }
    }

    @Sentence(of = "Terms", says = "VALUES are 0 .. 1000000000.")
    static void valuesEnd() {
        Form x = Forms.lodged(0, 1);
        for (long v : new long[] {0, 1, 999999999, 1000000000}) {
            Form y = new Form(0);
            Trial.due(1, y.field(0, 0, v));
            Trial.due(v, y.value(0, 0));
            Trial.due(1, y.code(v, 0));
            Trial.due(1, x.amend(4, 0, v));
            Trial.due(v, x.value(4, 0));
        }
        for (long v : NO_VALUES) {
            Trial.refused(Form.ARGUMENT, Forms::busy, y -> y.field(0, 0, v));
            Trial.refused(Form.ARGUMENT, Forms::busyLodged, y -> y.amend(4, 0, v));
            Trial.refused(0, Forms::busy, y -> y.code(v, 50));
        }
    }

    @Sentence(of = "Terms", says = "By its kind a field is: (3 * field + 5 * kind) mod 4: "
            + "0 WANTED, 1 or 2 ALLOWED, 3 FORBIDDEN.")
    static void whatAFieldIsByItsKind() {
        for (int kind = 0; kind <= 3; kind++) {
            for (int f = 0; f <= 19; f++) {
                int line = f < 10 ? 0 : 1;
                int need = (3 * f + 5 * kind) % 4;
                Form x = Forms.whole(kind, 1);
                Trial.due(need, x.need(f));
                Trial.due(need == 3 ? 0 : 1, x.field(f, line, 0));
                Trial.due(0, x.check());
                Trial.due(need == 3 ? 0 : 1, x.clear(f, line));
                Trial.due(need == 0 ? 1000000 + 100 * line + f : 0, x.check());
            }
        }
    }

    @Sentence(of = "Terms", says = LINES)
    static void thirtyLinesInAll() {
        Form x = new Form(0);
        for (int line = 1; line <= 30; line++) {
            Trial.due(line, x.line());
            Trial.due(line, x.count(0));
        }
        Trial.refused(Form.STATE, () -> Forms.withLines(0, 30), Form::line);
        Trial.refused(Form.STATE, FormSentences::thirtyMadeNoneLeft, Form::line);
    }

    @Sentence(of = "Terms", says = LINES)
    static void numbersNeverComeAgain() {
        Form x = Forms.withLines(0, 3);
        x.field(10, 3, 5);
        x.remove(3);
        x.remove(1);
        Trial.due(4, x.line());
        Trial.due(5, x.line());
        Trial.due(3, x.count(0));
        Trial.due(Form.ARGUMENT, x.value(10, 1));
        Trial.due(-1, x.value(10, 2));
        Trial.due(Form.ARGUMENT, x.value(10, 3));
        Trial.due(-1, x.value(10, 4));
        Trial.due(0, x.sum(10));
    }

    @Sentence(of = "Terms", says = "A FIELD is SET to a value, or not set.")
    static void setToZeroIsSet() {
        Form x = Forms.withLines(0, 1);
        Trial.due(-1, x.value(0, 0));
        Trial.due(1, x.field(0, 0, 0));
        Trial.due(1, x.field(10, 1, 0));
        Trial.due(0, x.value(0, 0));
        Trial.due(0, x.value(10, 1));
        Trial.due(2, x.count(1));
        Trial.due(1, x.field(0, 0, 3));
        Trial.due(3, x.value(0, 0));
        Trial.due(2, x.count(1));
        Trial.due(1, x.clear(0, 0));
        Trial.due(-1, x.value(0, 0));
        Trial.due(0, x.value(10, 1));
        Trial.due(1, x.count(1));
    }

    // ---- promises 1 to 3

    @Sentence(of = "Promise 1",
            says = "A form of a kind (held to 0 .. 3), without lines; nothing set; TODAY 0.")
    static void kindIsHeld() {
        int[] told = {Integer.MIN_VALUE, -4, -1, 0, 1, 2, 3, 4, 7, Integer.MAX_VALUE};
        int[] held = {0, 0, 0, 0, 1, 2, 3, 3, 3, 3};
        for (int i = 0; i < told.length; i++) {
            Form x = new Form(told[i]);
            Trial.due(held[i], x.count(6));
            Trial.due(held[i], x.octet(0));
            for (int f = 0; f <= 19; f++) {
                Trial.due(Forms.need(held[i], f), x.need(f));
            }
        }
    }

    @Sentence(of = "Promise 1",
            says = "A form of a kind (held to 0 .. 3), without lines; nothing set; TODAY 0.")
    static void newFormIsEmpty() {
        for (int kind = 0; kind <= 3; kind++) {
            Form x = new Form(kind);
            for (int what = 0; what <= 8; what++) {
                Trial.due(what == 6 ? kind : 0, x.count(what));
            }
            for (int f = 0; f <= 9; f++) {
                Trial.due(-1, x.value(f, 0));
                Trial.due(0, x.sum(10 + f));
            }
            for (int line = 0; line <= 30; line++) {
                Trial.due(Form.ARGUMENT, x.value(10, line));
            }
            Trial.due(3, x.pack());
            Trial.due(1, x.day(0));
            Trial.due(1, x.line());
        }
    }

    @Sentence(of = "Promise 2", says = "One more LINE: its number.")
    static void oneMoreLine() {
        Form x = Forms.busy();
        Trial.due(3, x.count(0));
        Trial.due(5, x.line());
        Trial.due(4, x.count(0));
        for (int f = 10; f <= 19; f++) {
            Trial.due(-1, x.value(f, 5));
        }
        Trial.due(6, x.line());
        Trial.due(Form.ARGUMENT, x.value(10, 7));
    }

    @Sentence(of = "Promise 2", says = LINE_THROWS)
    static void noLineBehindThirty() {
        Form x = Forms.withLines(0, 29);
        Trial.due(30, x.line());
        Trial.due(1, x.field(10, 30, 1));
        Form y = Forms.withLines(0, 29);
        for (int line = 1; line <= 29; line++) {
            y.remove(line);
        }
        Trial.due(30, y.line());
        Trial.refused(Form.STATE, () -> Forms.withLines(0, 30), Form::line);
        Trial.refused(Form.STATE, FormSentences::thirtyMadeNoneLeft, Form::line);
        Trial.refused(Form.STATE, () -> Forms.lodged(0, 30), Form::line);
    }

    @Sentence(of = "Promise 2", says = LINE_THROWS)
    static void noLineWhenLodged() {
        Trial.due(2, Forms.whole(0, 1).line());
        Trial.due(5, Forms.busy().line());
        Trial.refused(Form.STATE, () -> Forms.lodged(0, 1), Form::line);
        Trial.refused(Form.STATE, Forms::busyLodged, Form::line);
    }

    @Sentence(of = "Promise 3", says = REMOVE)
    static void fieldsThatWereSet() {
        for (int set = 0; set <= 8; set++) {
            Form x = Forms.withLines(0, 3);
            x.field(0, 0, 1);
            x.field(10, 1, 1);
            x.field(19, 3, 1);
            int left = set;
            for (int f = 10; f <= 19 && left > 0; f++) {
                left -= x.field(f, 2, 0) == 1 ? 1 : 0;
            }
            Trial.due(3 + set, x.count(1));
            Trial.due(set, x.remove(2));
            Trial.due(3, x.count(1));
            Trial.due(2, x.count(0));
            Trial.due(1, x.value(0, 0));
            Trial.due(1, x.value(10, 1));
            Trial.due(1, x.value(19, 3));
        }
    }

    @Sentence(of = "Promise 3", says = REMOVE)
    static void noneSuchToRemove() {
        Supplier<Form> all = () -> Forms.withLines(0, 30);
        Trial.due(0, all.get().remove(1));
        Trial.due(0, all.get().remove(30));
        Trial.refused(-1, all, x -> x.remove(0));
        Trial.refused(-1, all, x -> x.remove(31));
        Trial.due(2, Forms.busy().remove(4));
        Trial.refused(-1, Forms::busy, x -> x.remove(-1));
        Trial.refused(-1, Forms::busy, x -> x.remove(0));
        Trial.refused(-1, Forms::busy, x -> x.remove(2));
        Trial.refused(-1, Forms::busy, x -> x.remove(5));
        Trial.refused(-1, Forms::busy, x -> x.remove(30));
        for (int line : Forms.FAR) {
            Trial.refused(-1, Forms::busy, x -> x.remove(line));
        }
        Trial.refused(-1, () -> new Form(0), x -> x.remove(1));
        Trial.refused(-1, FormSentences::thirtyMadeNoneLeft, x -> x.remove(30));
    }

    @Sentence(of = "Promise 3", says = REMOVE)
    static void nothingToRemoveWhenLodged() {
        Trial.due(3, Forms.busy().remove(3));
        Trial.refused(-1, Forms::busyLodged, x -> x.remove(3));
        Trial.refused(-1, Forms::busyLodged, x -> x.remove(2));
        Trial.refused(-1, () -> Forms.lodged(0, 1), x -> x.remove(1));
    }

    // ---- promises 4 to 7

    @Sentence(of = "Promise 4", says = FIELD)
    static void forbiddenIsNotSet() {
        for (int kind = 0; kind <= 3; kind++) {
            int own = kind;
            for (int f = 0; f <= 19; f++) {
                int asked = f;
                int line = f < 10 ? 0 : 1;
                if (Forms.need(kind, f) == 3) {
                    Trial.refused(0, () -> Forms.whole(own, 1), x -> x.field(asked, line, 5));
                } else {
                    Form x = Forms.withLines(kind, 1);
                    Trial.due(1, x.field(f, line, 5));
                    Trial.due(5, x.value(f, line));
                    Trial.due(1, x.count(1));
                }
            }
        }
    }

    @Sentence(of = "Promise 4", says = FIELD)
    static void nothingIsSetWhenLodged() {
        Form x = Forms.busy();
        Trial.due(1, x.field(4, 0, 9));
        Trial.due(1, x.field(16, 3, 9));
        Trial.due(1, x.field(7, 0, 9));
        Trial.refused(0, Forms::busyLodged, y -> y.field(4, 0, 9));
        Trial.refused(0, Forms::busyLodged, y -> y.field(4, 0, 0));
        Trial.refused(0, Forms::busyLodged, y -> y.field(16, 3, 9));
        Trial.refused(0, Forms::busyLodged, y -> y.field(7, 0, 9));
        Trial.refused(0, Forms::busyLodged, y -> y.field(1, 0, 9));
    }

    @Sentence(of = "Promise 4", says = FIELD_THROWS)
    static void noSuchFieldToSet() {
        Form x = Forms.busy();
        Trial.due(1, x.field(0, 0, 1));
        Trial.due(1, x.field(8, 0, 1));
        Trial.due(0, x.field(9, 0, 1));
        Trial.due(1, x.field(10, 1, 1));
        Trial.due(1, x.field(19, 1, 1));
        Trial.due(1, new Form(3).field(9, 0, 1));
        for (int f : new int[] {-1, 10, 12, 19, 20, 256}) {
            Trial.refused(Form.ARGUMENT, Forms::busy, y -> y.field(f, 0, 1));
        }
        for (int f : new int[] {-1, 0, 8, 9, 20, 256}) {
            Trial.refused(Form.ARGUMENT, Forms::busy, y -> y.field(f, 1, 1));
        }
        for (int f : Forms.FAR) {
            Trial.refused(Form.ARGUMENT, Forms::busy, y -> y.field(f, 0, 1));
            Trial.refused(Form.ARGUMENT, Forms::busy, y -> y.field(f, 1, 1));
        }
    }

    @Sentence(of = "Promise 4", says = FIELD_THROWS)
    static void noSuchLineToSet() {
        Supplier<Form> all = () -> Forms.withLines(0, 30);
        Trial.due(1, all.get().field(10, 1, 1));
        Trial.due(1, all.get().field(10, 30, 1));
        Trial.refused(Form.ARGUMENT, all, x -> x.field(10, 31, 1));
        Trial.refused(Form.ARGUMENT, all, x -> x.field(10, 0, 1));
        Trial.due(1, Forms.busy().field(10, 4, 1));
        for (int line : new int[] {-1, 2, 5, 30}) {
            Trial.refused(Form.ARGUMENT, Forms::busy, x -> x.field(10, line, 1));
            Trial.refused(Form.ARGUMENT, Forms::busy, x -> x.field(0, line, 1));
        }
        for (int line : Forms.FAR) {
            Trial.refused(Form.ARGUMENT, Forms::busy, x -> x.field(10, line, 1));
            Trial.refused(Form.ARGUMENT, Forms::busy, x -> x.field(0, line, 1));
        }
    }

    @Sentence(of = "Promise 4", says = FIELD_THROWS)
    static void noSuchValueToSet() {
        Form x = Forms.busy();
        for (long v : new long[] {0, 1000000000}) {
            Trial.due(1, x.field(8, 0, v));
            Trial.due(v, x.value(8, 0));
            Trial.due(1, x.field(11, 4, v));
            Trial.due(v, x.value(11, 4));
        }
        for (long v : NO_VALUES) {
            Trial.refused(Form.ARGUMENT, Forms::busy, y -> y.field(8, 0, v));
            Trial.refused(Form.ARGUMENT, Forms::busy, y -> y.field(11, 4, v));
        }
    }

    @Sentence(of = "Promise 4", says = FIELD_THROWS)
    static void throwsForForbiddenAndLodgedToo() {
        Trial.due(0, Forms.busy().field(1, 0, 1));
        Trial.refused(Form.ARGUMENT, Forms::busy, x -> x.field(1, 0, -1));
        Trial.refused(Form.ARGUMENT, Forms::busy, x -> x.field(1, 1, 1));
        Trial.refused(Form.ARGUMENT, Forms::busy, x -> x.field(13, 2, 1));
        Trial.due(0, Forms.busyLodged().field(0, 0, 1));
        Trial.refused(Form.ARGUMENT, Forms::busyLodged, x -> x.field(0, 0, -1));
        Trial.refused(Form.ARGUMENT, Forms::busyLodged, x -> x.field(0, 1, 1));
        Trial.refused(Form.ARGUMENT, Forms::busyLodged, x -> x.field(10, 2, 1));
        Trial.refused(Form.ARGUMENT, Forms::busyLodged, x -> x.field(20, 1, 1));
    }

    @Sentence(of = "Promise 5", says = CLEAR)
    static void onlyWhatIsSetIsCleared() {
        Form x = Forms.busy();
        long set = x.count(1);
        Trial.due(1, x.clear(0, 0));
        Trial.due(1, x.clear(8, 0));
        Trial.due(1, x.clear(10, 3));
        Trial.due(1, x.clear(19, 1));
        Trial.due(set - 4, x.count(1));
        Trial.due(-1, x.value(19, 1));
        Trial.due(0, x.clear(19, 1));
        Trial.due(set - 4, x.count(1));
        Trial.refused(0, Forms::busy, y -> y.clear(7, 0));
        Trial.refused(0, Forms::busy, y -> y.clear(1, 0));
        Trial.refused(0, Forms::busy, y -> y.clear(10, 1));
        Trial.refused(0, Forms::busy, y -> y.clear(19, 3));
    }

    @Sentence(of = "Promise 5", says = CLEAR)
    static void noneSuchToClear() {
        for (int f : new int[] {-1, 10, 12, 20}) {
            Trial.refused(0, Forms::busy, x -> x.clear(f, 0));
        }
        for (int f : new int[] {-1, 0, 2, 9, 20}) {
            Trial.refused(0, Forms::busy, x -> x.clear(f, 1));
        }
        for (int line : new int[] {-1, 2, 5, 30, 31}) {
            Trial.refused(0, Forms::busy, x -> x.clear(12, line));
            Trial.refused(0, Forms::busy, x -> x.clear(0, line));
        }
        for (int far : Forms.FAR) {
            Trial.refused(0, Forms::busy, x -> x.clear(far, 0));
            Trial.refused(0, Forms::busy, x -> x.clear(far, 1));
            Trial.refused(0, Forms::busy, x -> x.clear(0, far));
            Trial.refused(0, Forms::busy, x -> x.clear(12, far));
        }
        Form y = Forms.withLines(0, 30);
        y.field(19, 30, 0);
        Trial.due(1, y.clear(19, 30));
        Trial.due(0, y.clear(19, 31));
    }

    @Sentence(of = "Promise 5", says = CLEAR)
    static void nothingIsClearedWhenLodged() {
        Form x = Forms.busy();
        Trial.due(1, x.clear(2, 0));
        Trial.due(1, x.clear(10, 3));
        Trial.refused(0, Forms::busyLodged, y -> y.clear(2, 0));
        Trial.refused(0, Forms::busyLodged, y -> y.clear(10, 3));
        Trial.refused(0, Forms::busyLodged, y -> y.clear(7, 0));
    }

    @Sentence(of = "Promise 6", says = "What a field is set to; NONE if it is not.")
    static void valueOrNone() {
        Form x = Forms.withLines(3, 30);
        Trial.due(-1, x.value(1, 0));
        Trial.due(-1, x.value(9, 0));
        Trial.due(-1, x.value(10, 1));
        Trial.due(-1, x.value(19, 30));
        Trial.due(-1, x.value(0, 0));
        x.field(1, 0, 0);
        x.field(9, 0, 1000000000);
        x.field(10, 1, 1);
        x.field(19, 30, 999999999);
        Trial.due(0, x.value(1, 0));
        Trial.due(1000000000, x.value(9, 0));
        Trial.due(1, x.value(10, 1));
        Trial.due(999999999, x.value(19, 30));
        Trial.due(-1, x.value(10, 30));
        Trial.due(-1, x.value(19, 1));
        Trial.due(42, Forms.busyLodged().value(2, 0));
        Trial.due(-1, Forms.busyLodged().value(7, 0));
    }

    @Sentence(of = "Promise 6", says = VALUE_THROWS)
    static void noSuchFieldToAsk() {
        Form x = Forms.busy();
        Trial.due(0, x.value(0, 0));
        Trial.due(-1, x.value(9, 0));
        Trial.due(-1, x.value(10, 1));
        Trial.due(1000000000, x.value(19, 1));
        for (int f : new int[] {-1, 10, 19, 20}) {
            Trial.refused(Form.ARGUMENT, Forms::busy, y -> y.value(f, 0));
        }
        for (int f : new int[] {-1, 0, 9, 20}) {
            Trial.refused(Form.ARGUMENT, Forms::busy, y -> y.value(f, 1));
        }
        for (int f : Forms.FAR) {
            Trial.refused(Form.ARGUMENT, Forms::busy, y -> y.value(f, 0));
            Trial.refused(Form.ARGUMENT, Forms::busyLodged, y -> y.value(f, 1));
        }
    }

    @Sentence(of = "Promise 6", says = VALUE_THROWS)
    static void noSuchLineToAsk() {
        Supplier<Form> all = () -> Forms.withLines(0, 30);
        Trial.due(-1, all.get().value(10, 1));
        Trial.due(-1, all.get().value(19, 30));
        Trial.refused(Form.ARGUMENT, all, x -> x.value(10, 31));
        Trial.due(-1, Forms.busy().value(10, 4));
        for (int line : new int[] {-1, 2, 5, 30, 31}) {
            Trial.refused(Form.ARGUMENT, Forms::busy, x -> x.value(10, line));
            Trial.refused(Form.ARGUMENT, Forms::busy, x -> x.value(0, line));
        }
        for (int line : Forms.FAR) {
            Trial.refused(Form.ARGUMENT, Forms::busy, x -> x.value(10, line));
            Trial.refused(Form.ARGUMENT, Forms::busyLodged, x -> x.value(0, line));
        }
    }

    @Sentence(of = "Promise 7",
            says = "What a field is by the kind: 0 WANTED, 1, 2 ALLOWED, 3 FORBIDDEN.")
    static void needByKind() {
        for (int kind = 0; kind <= 3; kind++) {
            Form x = new Form(kind);
            for (int f = 0; f <= 19; f++) {
                Trial.due(Forms.need(kind, f), x.need(f));
            }
        }
        // The sum 3 * field + 5 * kind is 72 at most, so mod 4 comes round eighteen times.
        Trial.due(0, new Form(3).need(19));
        Trial.due(3, new Form(3).need(0));
    }

    @Sentence(of = "Promise 7", says = "IllegalArgumentException if there is no such field.")
    static void noSuchFieldToNeed() {
        for (int kind = 0; kind <= 3; kind++) {
            int own = kind;
            Trial.due(Forms.need(kind, 0), new Form(kind).need(0));
            Trial.due(Forms.need(kind, 19), new Form(kind).need(19));
            Trial.refused(Form.ARGUMENT, () -> Forms.whole(own, 1), x -> x.need(-1));
            Trial.refused(Form.ARGUMENT, () -> Forms.whole(own, 1), x -> x.need(20));
        }
        for (int f : Forms.FAR) {
            Trial.refused(Form.ARGUMENT, Forms::busy, x -> x.need(f));
            Trial.refused(Form.ARGUMENT, Forms::busyLodged, x -> x.need(f));
        }
    }

    private static Form thirtyMadeNoneLeft() {
        Form x = Forms.withLines(0, 30);
        for (int line = 1; line <= 30; line++) {
            x.remove(line);
        }
        return x;
    }

    private FormSentences() {
    }
}
