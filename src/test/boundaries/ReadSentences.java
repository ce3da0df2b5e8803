/** Reading a packed form back: the terms, and promise 18. */
final class ReadSentences {
    private static final String READ = "READ BACK byte by byte is such a row by a reader of its "
            + "own: it is wrong at the first byte that can't stand where it does: a kind above 3; "
            + "more fields than 610 (at the higher byte, if that alone is too much); a field above "
            + "19; a line that does not fit (0 for a field of the head, else 1 .. 30); not behind "
            + "the one before (by line, then field; told at the line); a FORBIDDEN one by that "
            + "kind; a value above 1000000000 (at its last byte).";
    private static final String ANEW = "Behind a whole or wrong row it begins anew.";
    private static final String ANSWER =
            "A byte comes to the reader: 1 the row is whole; 0 it goes on; -1 the byte is wrong.";

    // ---- each way to be wrong

    @Sentence(of = "Terms", says = READ)
    static void kindAboveThree() {
        for (int kind = 0; kind <= 255; kind++) {
            Form x = new Form(0);
            Trial.due(kind <= 3 ? 0 : -1, x.read(kind));
            if (kind <= 3) {
                Trial.row(x, 1, 0, 0);
            }
        }
    }

    @Sentence(of = "Terms", says = READ)
    static void moreFieldsThanThereMayBe() {
        for (int higher = 0; higher <= 255; higher++) {
            Trial.row(new Form(0), higher <= 2 ? 0 : -1, 0, higher);
        }
        for (int lower = 0; lower <= 255; lower++) {
            Trial.row(new Form(0), lower <= 98 ? 0 : -1, 0, 2, lower);
            Trial.row(new Form(0), 0, 0, 1, lower);
            Trial.row(new Form(0), lower == 0 ? 1 : 0, 0, 0, lower);
        }
    }

    @Sentence(of = "Terms", says = READ)
    static void higherByteCounts() {
        // 256 and 512 fields: more than one must come, though the lower byte is 0.
        for (int higher = 1; higher <= 2; higher++) {
            Form x = new Form(0);
            Trial.row(x, 0, 0, higher, 0, 0, 0, 0, 0, 0, 9, 2, 0, 0, 0, 0, 9);
            Trial.due(0, x.count(7));
            Trial.row(x, -1, 20);
        }
    }

    @Sentence(of = "Terms", says = READ)
    static void fieldAboveNineteen() {
        for (int f = 0; f <= 255; f++) {
            boolean stands = f <= 19 && Forms.need(3, f) != 3;
            Trial.row(new Form(0), stands ? 0 : -1, 3, 0, 1, f);
        }
        // Kind 3 has 19 as WANTED.
        Trial.row(new Form(0), 1, 3, 0, 1, 19, 1, 0, 0, 0, 0);
        Trial.row(new Form(0), -1, 3, 0, 1, 20);
    }

    @Sentence(of = "Terms", says = READ)
    static void lineThatDoesNotFit() {
        for (int line = 0; line <= 255; line++) {
            boolean ofLines = line >= 1 && line <= 30;
            Trial.row(new Form(1), line == 0 ? 0 : -1, 0, 0, 1, 0, line);
            Trial.row(new Form(1), line == 0 ? 0 : -1, 3, 0, 1, 9, line);
            Trial.row(new Form(1), ofLines ? 0 : -1, 0, 0, 1, 10, line);
            Trial.row(new Form(1), ofLines ? 0 : -1, 0, 0, 1, 19, line);
        }
    }

    @Sentence(of = "Terms", says = READ)
    static void notBehindTheOneBefore() {
        // Each pair of field and line, in order; kind 0 allows all of them.
        int[][] places = {{0, 0}, {8, 0}, {10, 1}, {11, 1}, {19, 1}, {10, 2}, {19, 2}, {10, 30},
            {19, 30}};
        for (int i = 0; i < places.length; i++) {
            for (int j = 0; j < places.length; j++) {
                Form x = new Form(0);
                Trial.row(x, 0, 0, 0, 2, places[i][0], places[i][1], 0, 0, 0, 0);
                // The field alone never tells: a field of the head waits for its line too.
                Trial.due(0, x.read(places[j][0]));
                Trial.due(j > i ? 0 : -1, x.read(places[j][1]));
                if (j > i) {
                    Trial.row(x, 1, 0, 0, 0, 0);
                }
            }
        }
    }

    @Sentence(of = "Terms", says = READ)
    static void behindTheLatestNotOnlyTheFirst() {
        Form x = new Form(0);
        Trial.row(x, 0, 0, 0, 3, 0, 0, 0, 0, 0, 0, 10, 5, 0, 0, 0, 0);
        Trial.row(x, -1, 10, 4);
        Trial.row(x, 0, 0, 0, 3, 0, 0, 0, 0, 0, 0, 10, 5, 0, 0, 0, 0);
        Trial.row(x, -1, 10, 5);
        Trial.row(x, 0, 0, 0, 3, 0, 0, 0, 0, 0, 0, 10, 5, 0, 0, 0, 0);
        Trial.row(x, 1, 11, 5, 0, 0, 0, 0);
    }

    @Sentence(of = "Terms", says = READ)
    static void forbiddenByTheRowsKind() {
        for (int own = 0; own <= 3; own++) {
            for (int kind = 0; kind <= 3; kind++) {
                for (int f = 0; f <= 19; f++) {
                    Form x = new Form(own);
                    if (Forms.need(kind, f) == 3) {
                        Trial.row(x, -1, kind, 0, 1, f);
                    } else {
                        Trial.row(x, 1, kind, 0, 1, f, f < 10 ? 0 : 30, 0, 0, 0, 1);
                    }
                }
            }
        }
        // The kind is still known at a later field: 13 is forbidden by 0, 14 is not.
        Trial.row(new Form(1), -1, 0, 0, 2, 12, 1, 0, 0, 0, 0, 13);
        Trial.row(new Form(1), 1, 0, 0, 2, 12, 1, 0, 0, 0, 0, 14, 1, 0, 0, 0, 0);
    }

    @Sentence(of = "Terms", says = READ)
    static void valueAboveTheMost() {
        int[][] stand = {{0, 0, 0, 0}, {0x3B, 0x9A, 0xCA, 0x00}, {0x3B, 0x9A, 0xC9, 0xFF},
            {0x3B, 0x99, 0xFF, 0xFF}, {0x3A, 0xFF, 0xFF, 0xFF}, {0, 0, 0, 0x80}, {0, 0xFF, 0, 0}};
        int[][] fall = {{0x3B, 0x9A, 0xCA, 0x01}, {0x3B, 0x9A, 0xCB, 0x00}, {0x3B, 0x9B, 0, 0},
            {0x3C, 0, 0, 0}, {0x7F, 0xFF, 0xFF, 0xFF}, {0x80, 0, 0, 0}, {0xFF, 0xFF, 0xFF, 0xFF}};
        for (int i = 0; i < stand.length; i++) {
            Form x = new Form(0);
            Trial.row(x, 0, 0, 0, 2, 0, 0);
            Trial.row(x, 0, stand[i]);
            Trial.row(x, 0, 2, 0);
            Trial.row(x, 1, stand[i]);
            Trial.due(1, x.count(7));
            // Only the last byte of the value tells, be the first too much already.
            Form y = new Form(0);
            Trial.row(y, 0, 0, 0, 2, 0, 0);
            Trial.row(y, -1, fall[i]);
            Trial.row(y, 0, 0, 0, 2, 0, 0);
            Trial.row(y, 0, stand[i]);
            Trial.row(y, 0, 2, 0);
            Trial.row(y, -1, fall[i]);
            Trial.due(0, y.count(7));
        }
    }

    @Sentence(of = "Terms", says = READ)
    static void readerOfItsOwn() {
        Form x = Forms.busyLodged();
        long bytes = x.pack();
        // Ends the row that the busy form has under way, and reads one of another kind.
        Trial.row(x, 1, 4, 0, 0, 0, 0, 1);
        Trial.row(x, 1, 3, 0, 1, 19, 30, 0, 0, 0, 5);
        Trial.due(3, x.count(7));
        Trial.due(1, x.count(8));
        Trial.due(0, x.count(6));
        Trial.due(bytes, x.pack());
        Trial.due(3, x.count(0));
        Trial.due(1, x.count(2));
        Trial.due(0, x.value(4, 0));
        Trial.due(1000000000, x.value(19, 1));
    }

    // ---- it begins anew

    @Sentence(of = "Terms", says = ANEW)
    static void anewBehindAWholeRow() {
        Form x = new Form(0);
        for (int i = 1; i <= 3; i++) {
            Trial.row(x, 1, i, 0, 0);
            Trial.due(i, x.count(7));
        }
        // Neither the kind, nor the order, nor the value of the row before is left.
        Trial.row(x, 1, 0, 0, 1, 19, 30, 0x3B, 0x9A, 0xCA, 0);
        Trial.row(x, 1, 3, 0, 1, 9, 0, 0x3B, 0x9A, 0xCA, 0);
        Trial.row(x, 1, 0, 0, 1, 0, 0, 0, 0, 0, 0);
        Trial.due(6, x.count(7));
    }

    @Sentence(of = "Terms", says = ANEW)
    static void anewBehindAWrongRow() {
        int[][] wrong = {{4}, {0, 3}, {0, 2, 99}, {0, 0, 1, 20}, {0, 0, 1, 1}, {0, 0, 1, 0, 1},
            {0, 0, 1, 10, 0}, {0, 0, 1, 10, 31}, {0, 0, 2, 19, 30, 0, 0, 0, 0, 19, 30},
            {0, 0, 1, 0, 0, 0x3B, 0x9A, 0xCA, 1}};
        Form x = new Form(0);
        for (int i = 0; i < wrong.length; i++) {
            Trial.row(x, -1, wrong[i]);
            Trial.due(i, x.count(7));
            Trial.row(x, 1, 3, 0, 1, 1, 0, 0x3B, 0x9A, 0xCA, 0);
            Trial.due(i + 1, x.count(7));
            // The wrong byte is not the first of the next row.
            Trial.row(x, -1, wrong[i]);
            Trial.row(x, -1, 4);
        }
    }

    // ---- promise 18

    @Sentence(of = "Promise 18", says = ANSWER)
    static void wholeAtTheLastByte() {
        Form x = new Form(2);
        Trial.row(x, 1, 0, 0, 0);
        Trial.due(0, x.count(8));
        Trial.row(x, 1, 0, 0, 1, 0, 0, 0, 0, 0, 0);
        Trial.due(1, x.count(8));
        Trial.row(x, 1, 0, 0, 2, 0, 0, 0, 0, 0, 0, 2, 0, 0, 0, 0, 0);
        Trial.due(2, x.count(8));
        Trial.due(3, x.count(7));
        Trial.row(x, 0, 0, 0, 2, 0, 0, 0, 0, 0, 0, 2, 0, 0, 0, 0);
        Trial.due(3, x.count(7));
        Trial.due(1, x.read(0));
        Trial.due(4, x.count(7));
    }

    @Sentence(of = "Promise 18", says = ANSWER)
    static void wrongByteLeavesTheRestAlone() {
        Form x = new Form(2);
        Trial.row(x, 1, 0, 0, 1, 0, 0, 0, 0, 0, 0);
        Trial.row(x, -1, 0, 0, 2, 0, 0, 0, 0, 0, 0, 0, 0);
        Trial.due(1, x.count(7));
        Trial.due(1, x.count(8));
        Trial.due(3, x.pack());
        Trial.due(0, x.count(0));
        Trial.due(2, x.count(6));
    }

    @Sentence(of = "Promise 18", says = ANSWER)
    static void theLongestRowThatCallsAllow() {
        Form x = new Form(0);
        Trial.row(x, 0, 0, 0, 84);
        int left = 84;
        for (int line = 0; line <= 30 && left > 0; line++) {
            for (int i = 0; i <= 9 && left > 0; i++) {
                int f = line == 0 ? i : 10 + i;
                if (Forms.need(0, f) != 3) {
                    left--;
                    Trial.row(x, left == 0 ? 1 : 0, f, line, 0x3B, 0x9A, 0xCA, 0);
                }
            }
        }
        Trial.due(1, x.count(7));
        Trial.due(84, x.count(8));
    }

    @Sentence(of = "Promise 18", says = ANSWER)
    static void whatWasPackedIsRead() {
        for (int kind = 0; kind <= 3; kind++) {
            Form x = Forms.withLines(kind, 3);
            x.remove(2);
            for (int f = 0; f <= 9; f++) {
                x.field(f, 0, 1000000000 - f);
                x.field(10 + f, 1, 127 + f);
                x.field(10 + f, 3, 0xFFFFF8 + f);
            }
            int bytes = (int) x.pack();
            for (int i = 0; i < bytes; i++) {
                Trial.due(i == bytes - 1 ? 1 : 0, x.read((int) x.octet(i)));
            }
            Trial.due(x.count(1), x.count(8));
        }
    }

    private ReadSentences() {
    }
}
