import java.util.function.Supplier;

/** Papers and what lines draw from them: the terms, and promises 13 and 14. */
final class PaperSentences {
    private static final String PAPERS = "PAPERS (20 at most) have a number and a balance; lines "
            + "draw from them: a balance less by what is drawn, or nothing is drawn.";
    private static final String PAPER = "A PAPER with a balance: true; false if the number is not "
            + "1 .. 1000000, the balance not 0 .. 1000000, it is there, or there are 20.";
    private static final String DRAW = "A line draws from a paper: what is left; -1 if there is "
            + "not as much, or it is LODGED.";
    private static final String DRAW_THROWS = "IllegalArgumentException if there is no such line "
            + "or paper, or n is not 1 .. 1000000.";

    // ---- terms

    @Sentence(of = "Terms", says = PAPERS)
    static void twentyPapersAtMost() {
        Form x = withPapers(19);
        Trial.due(1, x.paper(20, 5));
        Trial.due(20, x.count(4));
        Trial.due(5, x.count(120));
        Trial.refused(0, () -> withPapers(20), y -> y.paper(21, 5));
    }

    @Sentence(of = "Terms", says = PAPERS)
    static void lessByWhatIsDrawnOrNothing() {
        Form x = Forms.busy();
        Trial.due(5, x.count(107));
        Trial.due(4, x.draw(4, 7, 1));
        Trial.due(4, x.count(107));
        Trial.due(0, x.draw(3, 7, 4));
        Trial.due(0, x.count(107));
        Trial.due(-1, x.draw(3, 7, 1));
        Trial.due(0, x.count(107));
        Trial.refused(-1, Forms::busy, y -> y.draw(1, 7, 6));
        Trial.refused(-1, Forms::busy, y -> y.draw(1, 9, 1));
    }

    @Sentence(of = "Terms", says = "What a removed line drew comes back.")
    static void drawnComesBack() {
        Form x = Forms.withLines(0, 30);
        x.paper(7, 100);
        x.paper(8, 1000000);
        x.draw(1, 7, 60);
        x.draw(1, 7, 1);
        x.draw(30, 7, 39);
        x.draw(30, 8, 1000000);
        Trial.due(0, x.count(107));
        x.remove(2);
        Trial.due(0, x.count(107));
        Trial.due(0, x.count(108));
        x.remove(1);
        Trial.due(61, x.count(107));
        Trial.due(0, x.count(108));
        Trial.due(0, x.draw(29, 7, 61));
        Trial.due(-1, x.remove(1));
        Trial.due(0, x.count(107));
        x.remove(30);
        Trial.due(39, x.count(107));
        Trial.due(1000000, x.count(108));
        x.remove(29);
        Trial.due(100, x.count(107));
        Trial.due(1000000, x.count(108));
    }

    @Sentence(of = "Terms", says = "What a removed line drew comes back.")
    static void everyPaperOfEveryLine() {
        Form x = withPapers(20);
        for (int number = 1; number <= 20; number++) {
            Trial.due(4, x.draw(1, number, 1));
            Trial.due(2, x.draw(2, number, 2));
        }
        Trial.due(0, x.remove(1));
        for (int number = 1; number <= 20; number++) {
            Trial.due(3, x.count(100 + number));
        }
        Trial.due(0, x.remove(2));
        for (int number = 1; number <= 20; number++) {
            Trial.due(5, x.count(100 + number));
        }
    }

    // ---- promise 13

    @Sentence(of = "Promise 13", says = PAPER)
    static void numberOfAPaper() {
        Form x = Forms.busy();
        Trial.due(1, x.paper(1, 4));
        Trial.due(4, x.count(101));
        Trial.due(1, x.paper(1000000, 6));
        Trial.due(6, x.count(1000100));
        Trial.due(5, x.count(4));
        for (int number : new int[] {0, -1, -100, 1000001}) {
            Trial.refused(0, Forms::busy, y -> y.paper(number, 4));
        }
        for (int number : Forms.FAR) {
            Trial.refused(0, Forms::busy, y -> y.paper(number, 4));
        }
    }

    @Sentence(of = "Promise 13", says = PAPER)
    static void balanceOfAPaper() {
        Form x = Forms.busy();
        Trial.due(1, x.paper(1, 0));
        Trial.due(0, x.count(101));
        Trial.due(1, x.paper(2, 1000000));
        Trial.due(1000000, x.count(102));
        for (int balance : new int[] {-1, 1000001}) {
            Trial.refused(0, Forms::busy, y -> y.paper(1, balance));
        }
        for (int balance : Forms.FAR) {
            Trial.refused(0, Forms::busy, y -> y.paper(1, balance));
        }
    }

    @Sentence(of = "Promise 13", says = PAPER)
    static void paperThatIsThere() {
        Trial.due(1, Forms.busy().paper(6, 3));
        Trial.due(1, Forms.busy().paper(10, 3));
        for (int number = 7; number <= 9; number++) {
            int there = number;
            Trial.refused(0, Forms::busy, y -> y.paper(there, 3));
        }
        // Still there when it is empty, or when the line that drew is gone.
        Supplier<Form> drawnAndGone = () -> {
            Form x = Forms.busy();
            x.draw(1, 7, 5);
            x.remove(3);
            return x;
        };
        Trial.refused(0, drawnAndGone, y -> y.paper(7, 3));
        Trial.refused(0, drawnAndGone, y -> y.paper(8, 3));
    }

    @Sentence(of = "Promise 13", says = PAPER)
    static void noPaperBehindTwenty() {
        Form x = withPapers(19);
        Trial.due(1, x.paper(1000000, 7));
        Trial.due(20, x.count(4));
        Trial.due(7, x.count(1000100));
        Trial.due(0, x.paper(20, 5));
        Trial.due(20, x.count(4));
        Trial.refused(0, () -> withPapers(20), y -> y.paper(21, 5));
        Trial.refused(0, () -> withPapers(20), y -> y.paper(20, 6));
        Trial.refused(0, () -> withPapers(20), y -> y.paper(1, 6));
    }

    // ---- promise 14

    @Sentence(of = "Promise 14", says = DRAW)
    static void notAsMuch() {
        Form x = Forms.withLines(0, 2);
        x.paper(7, 10);
        x.paper(8, 1000000);
        x.paper(9, 0);
        Trial.due(9, x.draw(1, 7, 1));
        Trial.due(-1, x.draw(2, 7, 10));
        Trial.due(0, x.draw(2, 7, 9));
        Trial.due(-1, x.draw(1, 7, 1));
        Trial.due(-1, x.draw(1, 9, 1));
        Trial.due(0, x.draw(1, 8, 1000000));
        Trial.refused(-1, Forms::busy, y -> y.draw(1, 7, 6));
        Trial.due(0, Forms.busy().draw(1, 7, 5));
        Trial.refused(-1, Forms::busy, y -> y.draw(4, 8, 2));
        Trial.due(0, Forms.busy().draw(4, 8, 1));
        Trial.refused(-1, Forms::busy, y -> y.draw(4, 9, 1));
        Trial.refused(-1, Forms::busy, y -> y.draw(4, 7, 1000000));
    }

    @Sentence(of = "Promise 14", says = DRAW)
    static void nothingIsDrawnWhenLodged() {
        Trial.due(4, Forms.busy().draw(1, 7, 1));
        Trial.refused(-1, Forms::busyLodged, y -> y.draw(1, 7, 1));
        Trial.refused(-1, Forms::busyLodged, y -> y.draw(1, 7, 5));
        Trial.refused(-1, Forms::busyLodged, y -> y.draw(1, 7, 6));
    }

    @Sentence(of = "Promise 14", says = DRAW_THROWS)
    static void noSuchLineDraws() {
        Supplier<Form> all = () -> {
            Form x = Forms.withLines(0, 30);
            x.paper(7, 10);
            return x;
        };
        Trial.due(9, all.get().draw(1, 7, 1));
        Trial.due(9, all.get().draw(30, 7, 1));
        Trial.refused(Form.ARGUMENT, all, x -> x.draw(0, 7, 1));
        Trial.refused(Form.ARGUMENT, all, x -> x.draw(31, 7, 1));
        Trial.due(4, Forms.busy().draw(4, 7, 1));
        for (int line : new int[] {-1, 0, 2, 5, 30}) {
            Trial.refused(Form.ARGUMENT, Forms::busy, x -> x.draw(line, 7, 1));
            Trial.refused(Form.ARGUMENT, Forms::busyLodged, x -> x.draw(line, 7, 1));
        }
        for (int line : Forms.FAR) {
            Trial.refused(Form.ARGUMENT, Forms::busy, x -> x.draw(line, 7, 1));
        }
    }

    @Sentence(of = "Promise 14", says = DRAW_THROWS)
    static void noSuchPaperToDrawFrom() {
        Form x = withPapers(20);
        Trial.due(4, x.draw(1, 1, 1));
        Trial.due(4, x.draw(1, 20, 1));
        Trial.refused(Form.ARGUMENT, () -> withPapers(20), y -> y.draw(1, 21, 1));
        Trial.refused(Form.ARGUMENT, () -> withPapers(20), y -> y.draw(1, 0, 1));
        for (int number : new int[] {-1, 0, 6, 10, 1000000, 1000001}) {
            Trial.refused(Form.ARGUMENT, Forms::busy, y -> y.draw(1, number, 1));
            Trial.refused(Form.ARGUMENT, Forms::busyLodged, y -> y.draw(1, number, 1));
        }
        for (int number : Forms.FAR) {
            Trial.refused(Form.ARGUMENT, Forms::busy, y -> y.draw(1, number, 1));
        }
        Trial.refused(Form.ARGUMENT, () -> Forms.withLines(0, 1), y -> y.draw(1, 1, 1));
    }

    @Sentence(of = "Promise 14", says = DRAW_THROWS)
    static void howMuchMayBeDrawn() {
        Form x = Forms.withLines(0, 1);
        x.paper(8, 1000000);
        x.paper(7, 10);
        Trial.due(-1, x.draw(1, 7, 1000000));
        Trial.due(9, x.draw(1, 7, 1));
        Trial.due(0, x.draw(1, 8, 1000000));
        for (int n : new int[] {0, -1, -5, 1000001}) {
            Trial.refused(Form.ARGUMENT, Forms::busy, y -> y.draw(1, 7, n));
            Trial.refused(Form.ARGUMENT, Forms::busyLodged, y -> y.draw(1, 7, n));
        }
        for (int n : Forms.FAR) {
            Trial.refused(Form.ARGUMENT, Forms::busy, y -> y.draw(1, 7, n));
        }
    }

    /** Two lines, and papers 1, 2, .. with 5 each. */
    private static Form withPapers(int papers) {
        Form x = Forms.withLines(0, 2);
        for (int number = 1; number <= papers; number++) {
            x.paper(number, 5);
        }
        return x;
    }

    private PaperSentences() {
    }
}
