import java.util.List;
import java.util.function.ToLongFunction;

/** Sums and counts, promises 15 and 19, and the terms that hold for all calls. */
final class CountSentences {
    private static final String COUNT = "what 0: lines that there are, 1: fields set, 2: 1 if it "
            + "is LODGED, 3: codes good TODAY, 4: papers, 5: TODAY, 6: the kind, 7: rows that were "
            + "read whole, 8: fields of the latest whole row; from 100 on the balance of the paper "
            + "with the number what - 100.";

    @Sentence(of = "Promise 15", says = "The sum of a field of all lines.")
    static void sumOfAllLines() {
        Form x = Forms.withLines(0, 30);
        for (int f = 10; f <= 19; f++) {
            Trial.due(0, x.sum(f));
        }
        for (int line = 1; line <= 30; line++) {
            x.field(19, line, 1000000000);
        }
        x.field(10, 1, 3);
        x.field(10, 30, 4);
        x.field(0, 0, 50);
        // Beyond what 32 bits can hold.
        Trial.due(30000000000L, x.sum(19));
        Trial.due(7, x.sum(10));
        Trial.due(0, x.sum(11));
        Trial.due(0, x.sum(13));
        x.remove(30);
        Trial.due(29000000000L, x.sum(19));
        Trial.due(3, x.sum(10));
        x.clear(10, 1);
        Trial.due(0, x.sum(10));
        Trial.due(0, new Form(0).sum(10));
        Trial.due(42, Forms.busyLodged().sum(12));
    }

    @Sentence(of = "Promise 15", says = "IllegalArgumentException if it is not 10 .. 19.")
    static void sumOfLineFieldsAlone() {
        Trial.due(77, Forms.busy().sum(10));
        Trial.due(1000000000, Forms.busy().sum(19));
        for (int f : new int[] {-1, 0, 2, 9, 20, 29}) {
            Trial.refused(Form.ARGUMENT, Forms::busy, x -> x.sum(f));
            Trial.refused(Form.ARGUMENT, Forms::busyLodged, x -> x.sum(f));
        }
        for (int f : Forms.FAR) {
            Trial.refused(Form.ARGUMENT, Forms::busy, x -> x.sum(f));
        }
    }

    @Sentence(of = "Promise 19", says = COUNT)
    static void countsOfAForm() {
        Form x = Forms.busy();
        int[] want = {3, 12, 0, 4, 3, 3, 0, 1, 1};
        for (int what = 0; what < want.length; what++) {
            Trial.due(want[what], x.count(what));
        }
        x.day(4);
        Trial.due(3, x.count(3));
        Trial.due(4, x.count(5));
        x.day(6);
        Trial.due(2, x.count(3));
        x.code(78, 6);
        Trial.due(3, x.count(3));
        x.remove(1);
        Trial.due(2, x.count(0));
        Trial.due(9, x.count(1));
        x.paper(1, 0);
        Trial.due(4, x.count(4));
        x.field(2, 0, 2);
        x.lodge();
        Trial.due(1, x.count(2));
    }

    @Sentence(of = "Promise 19", says = COUNT)
    static void countsAtTheirEnds() {
        Form x = Forms.withLines(3, 30);
        Trial.due(30, x.count(0));
        for (int i = 1; i <= 20; i++) {
            x.code(i, i);
            x.paper(i, i);
        }
        Trial.due(20, x.count(3));
        Trial.due(20, x.count(4));
        x.day(20);
        Trial.due(1, x.count(3));
        x.day(21);
        Trial.due(0, x.count(3));
        x.day(100000);
        Trial.due(100000, x.count(5));
        Trial.due(3, x.count(6));
        Trial.row(x, 1, 0, 0, 2, 0, 0, 0, 0, 0, 0, 2, 0, 0, 0, 0, 0);
        Trial.due(2, x.count(8));
        Trial.row(x, 1, 0, 0, 0);
        Trial.due(0, x.count(8));
        Trial.due(2, x.count(7));
    }

    @Sentence(of = "Promise 19", says = COUNT)
    static void balancesFromAHundredOn() {
        Form x = Forms.withLines(0, 1);
        x.paper(1, 1000000);
        x.paper(1000000, 0);
        Trial.due(1000000, x.count(101));
        Trial.due(0, x.count(1000100));
        Trial.due(-1, x.count(100));
        Trial.due(-1, x.count(102));
        Trial.due(-1, x.count(1000099));
        Trial.due(-1, x.count(1000101));
        x.draw(1, 1, 999999);
        Trial.due(1, x.count(101));
        x.remove(1);
        Trial.due(1000000, x.count(101));
    }

    @Sentence(of = "Promise 19", says = "NONE for another what or paper.")
    static void noSuchCount() {
        Trial.due(3, Forms.busy().count(0));
        Trial.due(1, Forms.busy().count(8));
        Trial.due(5, Forms.busy().count(107));
        Trial.due(0, Forms.busy().count(109));
        for (int what : new int[] {-1, -100, 9, 10, 99, 100, 106, 110, 1000100, 1000101}) {
            Trial.refused(-1, Forms::busy, x -> x.count(what));
            Trial.refused(-1, Forms::busyLodged, x -> x.count(what));
        }
        for (int what : Forms.FAR) {
            Trial.refused(-1, Forms::busy, x -> x.count(what));
        }
        // What - 100 would come round to a paper's number.
        Trial.refused(-1, Forms::busy, x -> x.count(Integer.MIN_VALUE + 7));
        Trial.refused(-1, Forms::busy, x -> x.count(-93));
        Trial.refused(-1, Forms::busy, x -> x.count(7 - 100 + 256));
    }

    // ---- terms

    @Sentence(of = "Terms", says = "What throws or is refused changes nothing.")
    static void refusedCallsOfAnOpenForm() {
        refuse(Form.ARGUMENT, List.of(x -> x.field(10, 2, 5), x -> x.field(4, 0, -1),
                x -> x.field(9, 1, 5), x -> x.value(10, 2), x -> x.need(20),
                x -> x.amend(10, 2, 5), x -> x.draw(2, 7, 1), x -> x.draw(1, 6, 1),
                x -> x.draw(1, 7, 0), x -> x.sum(20)), false);
        refuse(Form.STATE, List.of(x -> x.amend(4, 0, 5)), false);
        refuse(Form.BOUNDS, List.of(x -> x.octet(75), x -> x.octet(-1)), false);
        refuse(0, List.of(x -> x.field(1, 0, 5), x -> x.clear(7, 0), x -> x.code(77, 100001),
                x -> x.day(2), x -> x.paper(7, 5)), false);
        refuse(-1, List.of(x -> x.remove(2), x -> x.draw(1, 7, 6), x -> x.count(9)), false);
        // What is not refused does change the form, and the probes see it.
        Trial.due(1, Forms.busy().field(4, 0, 5));
        Trial.due(1, Forms.busy().clear(4, 0));
        Trial.due(5, Forms.busy().line());
        Trial.due(4, Forms.busy().draw(1, 7, 1));
    }

    @Sentence(of = "Terms", says = "What throws or is refused changes nothing.")
    static void refusedCallsOfALodgedForm() {
        refuse(Form.ARGUMENT, List.of(x -> x.field(10, 2, 5), x -> x.amend(4, 0, -1),
                x -> x.amend(10, 2, 77), x -> x.draw(1, 6, 1)), true);
        refuse(Form.STATE, List.of(Form::line), true);
        refuse(Form.BOUNDS, List.of(x -> x.octet(75)), true);
        refuse(0, List.of(Form::lodge, x -> x.field(4, 0, 5), x -> x.clear(4, 0),
                x -> x.amend(0, 0, 5), x -> x.amend(1, 0, 5), x -> x.amend(2, 0, 5),
                x -> x.amend(10, 1, 5), x -> x.day(2), x -> x.paper(7, 5)), true);
        refuse(-1, List.of(x -> x.remove(1), x -> x.draw(1, 7, 1)), true);
        Trial.due(1, Forms.busyLodged().amend(4, 0, 5));
        Trial.due(1, Forms.busyLodged().day(3));
    }

    @Sentence(of = "Terms", says = "The constants: `NONE = -1`: None.")
    static void none() {
        Trial.due(-1, DeclareForms.NONE);
        Form x = Forms.busy();
        Trial.due(DeclareForms.NONE, x.value(7, 0));
        Trial.due(DeclareForms.NONE, x.remove(2));
        Trial.due(DeclareForms.NONE, x.count(9));
    }

    @Sentence(of = "What it is", says = "An object is used for at most 512 calls after it has been "
            + "made; what later calls answer is free.")
    static void theLastCallStillCounts() {
        Form x = new Form(0);
        for (int i = 1; i <= 170; i++) {
            Trial.row(x, 1, i % 4, 0, 0);
        }
        Trial.due(1, x.line());
        Trial.due(170, x.count(7));
        // Free, but nothing that is not promised may be thrown.
        DeclareForms y = new DeclareForms(0);
        for (int i = 0; i < 3000; i++) {
            y.read((byte) (i % 3 == 0 ? 1 : 0));
            y.paper(i, i);
            y.code(i, i);
            y.remove(i);
            y.clear(i, i);
            y.count(i);
        }
        Trial.due(30, Forms.withLines(0, 29).line());
    }

    private static void refuse(long want, List<ToLongFunction<Form>> calls, boolean lodged) {
        for (ToLongFunction<Form> call : calls) {
            Trial.refused(want, lodged ? Forms::busyLodged : Forms::busy, call);
        }
    }

    private CountSentences() {
    }
}
