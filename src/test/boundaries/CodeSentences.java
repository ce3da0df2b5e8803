/** Codes and days: the terms that tell of them, and promises 8 and 9. */
final class CodeSentences {
    private static final String CODES = "CODES are values of field 10, each with a day up to which "
            + "it is good (that included); TODAY is 0 .. 100000 (0 at first, never goes back).";
    private static final String CODE = "A CODE is good up to a day (told anew: the later telling "
            + "counts): true; false if the value or day can't be, or there are 20 others.";
    private static final String DAY =
            "It is a day: true; false if it is ahead of TODAY, or above 100000.";

    @Sentence(of = "Terms", says = CODES)
    static void goodUpToItsDay() {
        for (int until : new int[] {0, 1, 5, 99999, 100000}) {
            Form x = Forms.whole(0, 1);
            x.field(10, 1, 77);
            Trial.due(1, x.code(77, until));
            Trial.due(1, x.day(until));
            Trial.due(0, x.check());
            Trial.due(2, x.count(3));
            if (until < 100000) {
                Trial.due(1, x.day(until + 1));
                Trial.due(4000110, x.check());
                Trial.due(1, x.count(3));
            }
        }
    }

    @Sentence(of = "Terms", says = CODES)
    static void codesAreValuesOfFieldTen() {
        for (long v : new long[] {0, 1000000000}) {
            Form x = Forms.whole(3, 1);
            x.code(0, 0);
            x.day(1);
            Trial.due(1, x.field(11, 1, v));
            Trial.due(0, x.check());
            Trial.due(1, x.field(10, 1, v));
            Trial.due(4000110, x.check());
            Trial.due(1, x.code(v, 1));
            Trial.due(0, x.check());
        }
        Trial.refused(0, Forms::busy, x -> x.code(-1, 50));
        Trial.refused(0, Forms::busy, x -> x.code(1000000001, 50));
    }

    @Sentence(of = "Terms", says = CODES)
    static void todayNeverGoesBack() {
        Form x = new Form(0);
        Trial.due(0, x.count(5));
        Trial.due(1, x.day(8));
        Trial.due(8, x.count(5));
        Trial.due(1, x.day(8));
        Trial.due(0, x.day(7));
        Trial.due(0, x.day(0));
        Trial.due(8, x.count(5));
        Trial.due(1, x.day(100000));
        Trial.due(100000, x.count(5));
        Trial.refused(0, () -> new Form(0), y -> y.day(-1));
        Trial.refused(0, Forms::busy, y -> y.day(2));
        Trial.refused(0, Forms::busy, y -> y.day(100001));
    }

    @Sentence(of = "Promise 8", says = CODE)
    static void laterTellingCounts() {
        Form x = Forms.whole(0, 1);
        x.field(10, 1, 77);
        Trial.due(1, x.code(77, 9));
        Trial.due(1, x.code(77, 4));
        Trial.due(1, x.day(4));
        Trial.due(0, x.check());
        Trial.due(1, x.day(5));
        Trial.due(4000110, x.check());
        Trial.due(1, x.code(77, 5));
        Trial.due(0, x.check());
        Trial.due(1, x.code(77, 4));
        Trial.due(4000110, x.check());
        Trial.due(1, x.code(77, 0));
        Trial.due(4000110, x.check());
        Trial.due(1, x.code(77, 100000));
        Trial.due(0, x.check());
        Trial.due(2, x.count(3));
    }

    @Sentence(of = "Promise 8", says = CODE)
    static void valueOfACodeEnds() {
        Form x = new Form(0);
        Trial.due(1, x.code(0, 5));
        Trial.due(1, x.code(1000000000, 5));
        Trial.due(2, x.count(3));
        for (long v : new long[] {-1, 1000000001, (1L << 32) + 77, Long.MIN_VALUE, Long.MAX_VALUE}) {
            Trial.refused(0, Forms::busy, y -> y.code(v, 50));
            Trial.refused(0, Forms::busyLodged, y -> y.code(v, 50));
        }
    }

    @Sentence(of = "Promise 8", says = CODE)
    static void dayOfACodeEnds() {
        Form x = new Form(0);
        Trial.due(1, x.code(1, 0));
        Trial.due(1, x.code(2, 100000));
        Trial.due(2, x.count(3));
        for (int until : new int[] {-1, 100001}) {
            Trial.refused(0, Forms::busy, y -> y.code(77, until));
            Trial.refused(0, Forms::busy, y -> y.code(80, until));
        }
        for (int until : Forms.FAR) {
            Trial.refused(0, Forms::busy, y -> y.code(77, until));
            Trial.refused(0, Forms::busyLodged, y -> y.code(80, until));
        }
    }

    @Sentence(of = "Promise 8", says = CODE)
    static void twentyOthers() {
        Form x = withCodes(19);
        Trial.due(19, x.count(3));
        Trial.due(1, x.code(19, 7));
        Trial.due(20, x.count(3));
        for (int v = 0; v <= 19; v++) {
            Trial.due(1, x.code(v, 6));
        }
        Trial.due(0, x.code(20, 6));
        Trial.due(20, x.count(3));
        Trial.refused(0, () -> withCodes(20), y -> y.code(20, 7));
        Trial.refused(0, () -> withCodes(20), y -> y.code(1000000000, 7));
    }

    @Sentence(of = "Promise 8", says = CODE)
    static void endedCodesAreAmongTheTwenty() {
        Form x = withCodes(19);
        x.day(8);
        Trial.due(0, x.count(3));
        Trial.due(1, x.code(19, 9));
        Trial.due(1, x.count(3));
        Trial.due(0, x.code(20, 9));
        Trial.due(1, x.code(0, 9));
        Trial.due(2, x.count(3));
        Trial.refused(0, CodeSentences::twentyEnded, y -> y.code(20, 9));
    }

    @Sentence(of = "Promise 9", says = DAY)
    static void aheadOfToday() {
        Form x = Forms.busy();
        Trial.due(1, x.day(3));
        Trial.due(3, x.count(5));
        Trial.due(1, x.day(4));
        Trial.due(4, x.count(5));
        Trial.refused(0, Forms::busy, y -> y.day(2));
        Trial.refused(0, Forms::busy, y -> y.day(0));
        Trial.refused(0, Forms::busy, y -> y.day(-1));
        Trial.refused(0, Forms::busy, y -> y.day(Integer.MIN_VALUE));
        Trial.due(1, new Form(0).day(0));
        Trial.refused(0, () -> new Form(0), y -> y.day(-1));
        Trial.refused(0, () -> atDay(100000), y -> y.day(99999));
    }

    @Sentence(of = "Promise 9", says = DAY)
    static void aboveTheLastDay() {
        Form x = new Form(0);
        Trial.due(1, x.day(99999));
        Trial.due(1, x.day(100000));
        Trial.due(1, x.day(100000));
        Trial.due(100000, x.count(5));
        Trial.refused(0, () -> atDay(100000), y -> y.day(100001));
        Trial.refused(0, Forms::busy, y -> y.day(100001));
        Trial.refused(0, Forms::busy, y -> y.day(Integer.MAX_VALUE));
        Trial.refused(0, Forms::busyLodged, y -> y.day(100001));
    }

    private static Form withCodes(int codes) {
        Form x = new Form(0);
        for (int v = 0; v < codes; v++) {
            x.code(v, 7);
        }
        return x;
    }

    private static Form twentyEnded() {
        Form x = withCodes(20);
        x.day(8);
        return x;
    }

    private static Form atDay(int day) {
        Form x = new Form(0);
        x.day(day);
        return x;
    }

    private CodeSentences() {
    }
}
