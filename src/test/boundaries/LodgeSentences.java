import java.util.function.Supplier;

/** What may be done once a form is lodged: the terms, and promises 11 and 12. */
final class LodgeSentences {
    private static final String LODGED = "LODGED is a form when CHECK finds nothing: then fields "
            + "may be AMENDED alone: not those with field mod 3 = 0; not to a FORBIDDEN one; and "
            + "only so that CHECK finds nothing then.";
    private static final String LODGE = "LODGED: 1; else 0 (it is already, or CHECK finds something).";
    private static final String AMEND = "AMENDED: 1; 0 if that may not be.";
    private static final String AMEND_THROWS =
            "IllegalArgumentException as field(); IllegalStateException if it is not LODGED.";

    // ---- terms

    @Sentence(of = "Terms", says = LODGED)
    static void notThirdFieldsAndNotForbiddenOnes() {
        for (int kind = 0; kind <= 3; kind++) {
            int own = kind;
            for (int f = 0; f <= 19; f++) {
                int asked = f;
                int line = f < 10 ? 0 : 1;
                // 0 keeps sums and codes right.
                long v = f == 2 || f == 10 || f == 13 ? 0 : 6;
                if (f % 3 == 0 || Forms.need(kind, f) == 3) {
                    Trial.refused(0, () -> Forms.lodged(own, 1), x -> x.amend(asked, line, 0));
                    Trial.refused(0, () -> Forms.lodged(own, 1), x -> x.amend(asked, line, v));
                } else {
                    Form x = Forms.lodged(kind, 1);
                    Trial.due(1, x.amend(f, line, v));
                    Trial.due(v, x.value(f, line));
                    Trial.due(0, x.check());
                    Trial.due(1, x.count(2));
                }
            }
        }
    }

    @Sentence(of = "Terms", says = LODGED)
    static void amendedOnlySoThatSumsStayRight() {
        Form x = Forms.busyLodged();
        Trial.due(1, x.amend(2, 0, 42));
        Trial.due(42, x.value(2, 0));
        for (long v : new long[] {0, 41, 43, 1000000000}) {
            Trial.refused(0, Forms::busyLodged, y -> y.amend(2, 0, v));
        }
        Supplier<Form> withoutSum = () -> Forms.lodged(0, 1);
        Trial.refused(0, withoutSum, y -> y.amend(2, 0, 1));
        Form z = withoutSum.get();
        Trial.due(1, z.amend(2, 0, 0));
        Trial.due(0, z.value(2, 0));
        // Kind 1 allows field 3, kind 3 wants it; 13 may be amended, 3 may not.
        Form w = Forms.lodged(1, 1);
        Trial.due(1, w.amend(13, 1, 8));
        Trial.due(8, w.value(13, 1));
        Trial.refused(0, () -> Forms.lodged(3, 1), y -> y.amend(13, 1, 8));
        Trial.due(1, Forms.lodged(3, 1).amend(13, 1, 0));
    }

    @Sentence(of = "Terms", says = LODGED)
    static void amendedOnlySoThatCodesAreGood() {
        Form x = Forms.busyLodged();
        Trial.due(1, x.amend(10, 3, 78));
        Trial.due(78, x.value(10, 3));
        Trial.due(1, x.amend(10, 1, 79));
        Trial.refused(0, Forms::busyLodged, y -> y.amend(10, 3, 76));
        Trial.refused(0, Forms::busyLodged, y -> y.amend(10, 1, 80));
        Supplier<Form> dayFour = () -> {
            Form y = Forms.busyLodged();
            y.day(4);
            return y;
        };
        Trial.refused(0, dayFour, y -> y.amend(10, 3, 78));
        Trial.due(1, dayFour.get().amend(10, 3, 79));
    }

    @Sentence(of = "Terms", says = LODGED)
    static void amendedOnlyIfNothingElseIsBroken() {
        Supplier<Form> ended = () -> {
            Form y = Forms.busyLodged();
            y.code(80, 11);
            y.day(11);
            return y;
        };
        Trial.due(4000310, ended.get().check());
        Trial.refused(0, ended, y -> y.amend(4, 0, 1));
        Trial.refused(0, ended, y -> y.amend(4, 0, 0));
        Trial.refused(0, ended, y -> y.amend(10, 1, 80));
        Trial.refused(0, ended, y -> y.amend(10, 3, 77));
        Form x = ended.get();
        Trial.due(1, x.amend(10, 3, 80));
        Trial.due(0, x.check());
        Trial.due(1, x.amend(4, 0, 1));
        Trial.due(1, x.value(4, 0));
    }

    @Sentence(of = "Terms", says = LODGED)
    static void fieldsAreAmendedAlone() {
        Form x = Forms.busy();
        Trial.due(1, x.field(4, 0, 1));
        Trial.due(1, x.field(7, 0, 2));
        Trial.due(1, x.clear(7, 0));
        Trial.refused(0, Forms::busyLodged, y -> y.field(4, 0, 1));
        Trial.refused(0, Forms::busyLodged, y -> y.field(7, 0, 2));
        Trial.refused(0, Forms::busyLodged, y -> y.clear(4, 0));
        Form z = Forms.busyLodged();
        Trial.due(1, z.amend(4, 0, 1));
        Trial.due(1, z.value(4, 0));
        Trial.due(1, z.amend(7, 0, 2));
        Trial.due(2, z.value(7, 0));
    }

    @Sentence(of = "Terms", says = "Lines and papers stay as they are.")
    static void linesAndPapersStay() {
        Form x = Forms.busy();
        Trial.due(5, x.line());
        Trial.due(4, x.draw(1, 7, 1));
        Trial.due(3, x.remove(3));
        Trial.due(5, x.count(107));
        Trial.refused(Form.STATE, Forms::busyLodged, Form::line);
        Trial.refused(-1, Forms::busyLodged, y -> y.remove(3));
        Trial.refused(-1, Forms::busyLodged, y -> y.draw(1, 7, 1));
        Trial.refused(0, Forms::busyLodged, y -> y.paper(7, 1));
        Form z = Forms.busyLodged();
        Trial.due(5, z.count(107));
        Trial.due(1, z.count(108));
        Trial.due(0, z.count(109));
        Trial.due(3, z.count(0));
        // Promise 13 names no refusal: a further paper leaves those that are there alone.
        Trial.due(1, z.paper(10, 3));
        Trial.due(5, z.count(107));
        Trial.due(3, z.count(110));
    }

    @Sentence(of = "Terms", says = "Of several exceptions the one told first is thrown.")
    static void argumentBeforeState() {
        Trial.refused(Form.STATE, Forms::busy, x -> x.amend(4, 0, 1));
        Trial.refused(Form.ARGUMENT, Forms::busy, x -> x.amend(4, 0, -1));
        Trial.refused(Form.ARGUMENT, Forms::busy, x -> x.amend(4, 1, 1));
        Trial.refused(Form.ARGUMENT, Forms::busy, x -> x.amend(10, 2, 1));
        Trial.refused(Form.ARGUMENT, Forms::busy, x -> x.amend(20, 1, 1));
        Trial.due(1, Forms.busyLodged().amend(4, 0, 1));
    }

    // ---- promises 11 and 12

    @Sentence(of = "Promise 11", says = LODGE)
    static void lodgedOnce() {
        for (int kind = 0; kind <= 3; kind++) {
            int own = kind;
            Form x = Forms.whole(kind, 1);
            Trial.due(0, x.count(2));
            Trial.due(1, x.lodge());
            Trial.due(1, x.count(2));
            Trial.refused(0, () -> Forms.lodged(own, 1), Form::lodge);
        }
        Trial.refused(0, Forms::busyLodged, Form::lodge);
    }

    @Sentence(of = "Promise 11", says = LODGE)
    static void notLodgedWhileSomethingIsBroken() {
        Trial.refused(0, () -> new Form(0), Form::lodge);
        Trial.refused(0, () -> Forms.whole(0, 0), Form::lodge);
        Trial.refused(0, () -> busyWith(12, 4, -1), Form::lodge);
        Trial.refused(0, () -> busyWith(2, 0, 41), Form::lodge);
        Trial.refused(0, () -> busyWith(3, 0, 1), Form::lodge);
        Trial.refused(0, () -> busyWith(10, 4, 76), Form::lodge);
        Trial.due(1, busyWith(12, 4, 0).lodge());
        Trial.due(1, busyWith(2, 0, 42).lodge());
        Trial.due(1, busyWith(3, 0, 0).lodge());
        Trial.due(1, busyWith(10, 4, 77).lodge());
        Trial.due(1, Forms.whole(0, 1).lodge());
    }

    @Sentence(of = "Promise 11", says = LODGE)
    static void lodgedUpToTheLastDayOfItsCode() {
        Supplier<Form> lastDay = () -> {
            Form x = Forms.busy();
            x.day(10);
            return x;
        };
        Supplier<Form> dayBehind = () -> {
            Form x = Forms.busy();
            x.day(11);
            return x;
        };
        Trial.due(1, lastDay.get().lodge());
        Trial.refused(0, dayBehind, Form::lodge);
        Form y = lastDay.get();
        Trial.due(1, y.lodge());
        Trial.due(1, y.day(11));
        Trial.due(1, y.count(2));
        Trial.due(0, y.lodge());
        Trial.due(1, y.count(2));
    }

    @Sentence(of = "Promise 12", says = AMEND)
    static void amendedOrNot() {
        Form x = Forms.busyLodged();
        long set = x.count(1);
        Trial.due(1, x.amend(4, 0, 1000000000));
        Trial.due(1000000000, x.value(4, 0));
        Trial.due(1, x.amend(4, 0, 0));
        Trial.due(0, x.value(4, 0));
        Trial.due(set, x.count(1));
        Trial.due(1, x.amend(11, 4, 3));
        Trial.due(3, x.value(11, 4));
        Trial.due(set + 1, x.count(1));
        Trial.due(1, x.count(2));
        Trial.refused(0, Forms::busyLodged, y -> y.amend(3, 0, 0));
        Trial.refused(0, Forms::busyLodged, y -> y.amend(12, 1, 40));
        Trial.refused(0, Forms::busyLodged, y -> y.amend(18, 1, 0));
        Trial.refused(0, Forms::busyLodged, y -> y.amend(1, 0, 0));
        Trial.refused(0, Forms::busyLodged, y -> y.amend(17, 1, 0));
        Trial.refused(0, Forms::busyLodged, y -> y.amend(2, 0, 0));
    }

    @Sentence(of = "Promise 12", says = AMEND_THROWS)
    static void noSuchFieldOrLineToAmend() {
        Form x = Forms.busyLodged();
        Trial.due(1, x.amend(8, 0, 1));
        Trial.due(1, x.amend(10, 1, 77));
        Trial.due(1, x.amend(19, 4, 1));
        for (int f : new int[] {-1, 10, 19, 20}) {
            Trial.refused(Form.ARGUMENT, Forms::busyLodged, y -> y.amend(f, 0, 77));
        }
        for (int f : new int[] {-1, 0, 8, 9, 20}) {
            Trial.refused(Form.ARGUMENT, Forms::busyLodged, y -> y.amend(f, 1, 77));
        }
        for (int line : new int[] {-1, 2, 5, 30, 31}) {
            Trial.refused(Form.ARGUMENT, Forms::busyLodged, y -> y.amend(19, line, 1));
            Trial.refused(Form.ARGUMENT, Forms::busyLodged, y -> y.amend(8, line, 1));
        }
        for (int far : Forms.FAR) {
            Trial.refused(Form.ARGUMENT, Forms::busyLodged, y -> y.amend(far, 0, 1));
            Trial.refused(Form.ARGUMENT, Forms::busyLodged, y -> y.amend(far, 1, 1));
            Trial.refused(Form.ARGUMENT, Forms::busyLodged, y -> y.amend(8, far, 1));
            Trial.refused(Form.ARGUMENT, Forms::busyLodged, y -> y.amend(19, far, 1));
        }
        Form all = Forms.lodged(0, 30);
        Trial.due(1, all.amend(19, 30, 1));
        Trial.due(Form.ARGUMENT, all.amend(19, 31, 1));
    }

    @Sentence(of = "Promise 12", says = AMEND_THROWS)
    static void noSuchValueToAmend() {
        Form x = Forms.busyLodged();
        Trial.due(1, x.amend(8, 0, 0));
        Trial.due(1, x.amend(8, 0, 1000000000));
        long[] wrong = {-1, 1000000001, 1L << 32, Long.MIN_VALUE, Long.MAX_VALUE};
        for (long v : wrong) {
            Trial.refused(Form.ARGUMENT, Forms::busyLodged, y -> y.amend(8, 0, v));
            Trial.refused(Form.ARGUMENT, Forms::busyLodged, y -> y.amend(3, 0, v));
            Trial.refused(Form.ARGUMENT, Forms::busyLodged, y -> y.amend(1, 0, v));
        }
    }

    @Sentence(of = "Promise 12", says = AMEND_THROWS)
    static void notLodgedIsNotAmended() {
        Trial.refused(Form.STATE, Forms::busy, x -> x.amend(4, 0, 1));
        Trial.refused(Form.STATE, Forms::busy, x -> x.amend(3, 0, 1));
        Trial.refused(Form.STATE, Forms::busy, x -> x.amend(1, 0, 1));
        Trial.refused(Form.STATE, () -> new Form(0), x -> x.amend(4, 0, 1));
        Trial.due(1, Forms.busyLodged().amend(4, 0, 1));
    }

    /** The busy form with one field otherwise: -1 leaves it not set. */
    private static Form busyWith(int f, int line, long v) {
        Form x = Forms.busy();
        Trial.due(1, v < 0 ? x.clear(f, line) : x.field(f, line, v));
        return x;
    }

    private LodgeSentences() {
    }
}
