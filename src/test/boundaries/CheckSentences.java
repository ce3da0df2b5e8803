/** The first broken thing: the term, and promise 10. */
final class CheckSentences {
    private static final String CHECK = "CHECK, the first broken thing, of: 1 each WANTED field "
            + "that is not set, head first, then lines by number, fields ascending; 2 the head's "
            + "field 2, if it is set, is not the sum of field 12 of all lines (not set counts 0); "
            + "3 so field 3 and field 13; 4 by lines: field 10 is set and no code that is good "
            + "TODAY; 5 there is no line.";
    private static final String ANSWER = "CHECK: 0 nothing is broken; 1000000 * which, and by 1 "
            + "and 4 100 * the line and the field, else 0.";

    @Sentence(of = "Terms", says = CHECK)
    static void wantedFieldsInTheirOrder() {
        for (int kind = 0; kind <= 3; kind++) {
            Form x = Forms.withLines(kind, 4);
            x.remove(2);
            x.code(0, 0);
            for (int line : new int[] {0, 1, 3, 4}) {
                for (int i = 0; i <= 9; i++) {
                    int f = line == 0 ? i : 10 + i;
                    if (Forms.need(kind, f) == 0) {
                        Trial.due(1000000 + 100 * line + f, x.check());
                        Trial.due(1, x.field(f, line, 0));
                    }
                }
            }
            Trial.due(0, x.check());
        }
    }

    @Sentence(of = "Terms", says = CHECK)
    static void headBeforeLinesAndLowBeforeHigh() {
        Form x = Forms.whole(0, 30);
        Trial.due(0, x.check());
        x.clear(16, 30);
        Trial.due(1003016, x.check());
        x.clear(12, 30);
        Trial.due(1003012, x.check());
        x.clear(16, 1);
        Trial.due(1000116, x.check());
        x.clear(12, 1);
        Trial.due(1000112, x.check());
        x.clear(8, 0);
        Trial.due(1000008, x.check());
        x.clear(0, 0);
        Trial.due(1000000, x.check());
    }

    @Sentence(of = "Terms", says = CHECK)
    static void fieldTwoIsTheSum() {
        Form x = Forms.whole(0, 30);
        x.field(12, 1, 30);
        x.field(12, 30, 12);
        Trial.due(0, x.check());
        long[] told = {41, 42, 43, 0};
        long[] found = {2000000, 0, 2000000, 2000000};
        for (int i = 0; i < told.length; i++) {
            Trial.due(1, x.field(2, 0, told[i]));
            Trial.due(found[i], x.check());
        }
        Trial.due(1, x.clear(2, 0));
        Trial.due(0, x.check());
    }

    @Sentence(of = "Terms", says = CHECK)
    static void sumOfFieldTwelveMayBeTooLarge() {
        Form x = Forms.whole(0, 5);
        x.field(12, 1, 999999999);
        x.field(2, 0, 1000000000);
        Trial.due(2000000, x.check());
        x.field(12, 5, 1);
        Trial.due(0, x.check());
        x.field(12, 5, 2);
        Trial.due(2000000, x.check());
        // 2 ^ 32 + 5 in all, which is 5 if it is cut to 32 bits.
        for (int line = 1; line <= 4; line++) {
            x.field(12, line, 1000000000);
        }
        x.field(12, 5, (1L << 32) + 5 - 4000000000L);
        x.field(2, 0, 5);
        Trial.due((1L << 32) + 5, x.sum(12));
        Trial.due(2000000, x.check());
    }

    @Sentence(of = "Terms", says = CHECK)
    static void notSetCountsZeroInSums() {
        // Kind 2 wants field 2 and allows 12.
        Form x = Forms.whole(2, 3);
        Trial.due(0, x.check());
        x.field(2, 0, 1);
        Trial.due(2000000, x.check());
        x.field(12, 2, 1);
        Trial.due(0, x.check());
        x.field(12, 3, 0);
        Trial.due(0, x.check());
        x.clear(12, 2);
        Trial.due(2000000, x.check());
        x.field(2, 0, 0);
        Trial.due(0, x.check());
        // Kind 3 forbids 12, so only 0 can be its sum.
        Form y = Forms.whole(3, 1);
        y.field(2, 0, 0);
        Trial.due(0, y.check());
        y.field(2, 0, 1);
        Trial.due(2000000, y.check());
    }

    @Sentence(of = "Terms", says = CHECK)
    static void fieldThreeIsTheSum() {
        // Kind 1 wants 13 and allows 3; kind 3 wants 3 and allows 13; kind 0 forbids 13.
        Form x = Forms.whole(1, 2);
        x.field(13, 1, 7);
        x.field(13, 2, 8);
        Trial.due(0, x.check());
        x.field(3, 0, 14);
        Trial.due(3000000, x.check());
        x.field(3, 0, 15);
        Trial.due(0, x.check());
        x.field(3, 0, 16);
        Trial.due(3000000, x.check());
        x.clear(3, 0);
        Trial.due(0, x.check());
        Form y = Forms.whole(3, 2);
        y.field(3, 0, 1000000000);
        Trial.due(3000000, y.check());
        y.field(13, 2, 1000000000);
        Trial.due(0, y.check());
        y.field(13, 1, 1);
        Trial.due(3000000, y.check());
        Form z = Forms.whole(0, 1);
        z.field(3, 0, 0);
        Trial.due(0, z.check());
        z.field(3, 0, 1);
        Trial.due(3000000, z.check());
    }

    @Sentence(of = "Terms", says = CHECK)
    static void codesByLines() {
        Form x = Forms.whole(0, 30);
        x.field(10, 30, 6);
        Trial.due(4003010, x.check());
        x.field(10, 1, 5);
        Trial.due(4000110, x.check());
        x.code(5, 2);
        Trial.due(4003010, x.check());
        x.code(6, 1);
        Trial.due(0, x.check());
        x.day(1);
        Trial.due(0, x.check());
        x.day(2);
        Trial.due(4003010, x.check());
        x.day(3);
        Trial.due(4000110, x.check());
        x.remove(1);
        Trial.due(4003010, x.check());
        x.clear(10, 30);
        Trial.due(0, x.check());
    }

    @Sentence(of = "Terms", says = CHECK)
    static void noLine() {
        for (int kind = 0; kind <= 3; kind++) {
            Trial.due(5000000, Forms.whole(kind, 0).check());
            Form x = Forms.whole(kind, 1);
            Trial.due(0, x.check());
            x.remove(1);
            Trial.due(5000000, x.check());
        }
    }

    @Sentence(of = "Terms", says = CHECK)
    static void theFirstOfSeveralIsTold() {
        Form x = Forms.whole(0, 1);
        x.field(2, 0, 1);
        x.field(3, 0, 1);
        x.field(10, 1, 1);
        x.clear(16, 1);
        Trial.due(1000116, x.check());
        x.field(16, 1, 0);
        Trial.due(2000000, x.check());
        x.field(2, 0, 0);
        Trial.due(3000000, x.check());
        x.field(3, 0, 0);
        Trial.due(4000110, x.check());
        x.remove(1);
        Trial.due(5000000, x.check());
        x.field(3, 0, 1);
        Trial.due(3000000, x.check());
        x.field(2, 0, 1);
        Trial.due(2000000, x.check());
        x.clear(8, 0);
        Trial.due(1000008, x.check());
    }

    @Sentence(of = "Promise 10", says = ANSWER)
    static void numbersOfCheck() {
        Form x = Forms.whole(0, 30);
        Trial.due(0, x.check());
        x.clear(0, 0);
        Trial.due(1000000, x.check());
        x.field(0, 0, 0);
        x.clear(16, 30);
        Trial.due(1003016, x.check());
        x.field(16, 30, 0);
        x.field(2, 0, 1);
        Trial.due(2000000, x.check());
        x.clear(2, 0);
        x.field(3, 0, 1);
        Trial.due(3000000, x.check());
        x.clear(3, 0);
        x.field(10, 1, 9);
        Trial.due(4000110, x.check());
        x.remove(1);
        x.field(10, 30, 9);
        Trial.due(4003010, x.check());
        for (int line = 2; line <= 30; line++) {
            x.remove(line);
        }
        Trial.due(5000000, x.check());
        x.clear(8, 0);
        Trial.due(1000008, x.check());
    }

    @Sentence(of = "Promise 10", says = ANSWER)
    static void checkChangesNothing() {
        Trial.refused(0, Forms::busy, Form::check);
        Trial.refused(0, Forms::busyLodged, Form::check);
        Trial.refused(5000000, () -> Forms.whole(0, 0), Form::check);
    }

    private CheckSentences() {
    }
}
