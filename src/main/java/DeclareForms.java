import java.util.Arrays;

/**
 * A declaration as a form: fields of its head and of lines, wanted, allowed or forbidden by its
 * kind, sums, codes that end, papers with balances, the first broken thing, a packed form that is
 * read back byte by byte, and what may be amended once it is lodged.
 */
public final class DeclareForms {
    public static final int NONE = -1;

    private static final int WANTED = 0;
    private static final int FORBIDDEN = 3;
    private static final int MOST_KIND = 3;
    private static final int MOST_FIELD = 19;
    private static final int MOST_LINE = 30;
    private static final int MOST_VALUE = 1000000000;
    private static final int MOST_DAY = 100000;
    private static final int MOST_PAPER_NUMBER = 1000000;
    private static final int MOST_BALANCE = 1000000;
    private static final int MOST_DRAWN = 1000000;
    private static final int MOST_CODES = 20;
    private static final int MOST_PAPERS = 20;
    private static final int MOST_PACKED_FIELDS = 610;

    /** The head has as many fields as a line, so one row of this many stands for each of them. */
    private static final int ROW = 10;

    private static final int CODE_FIELD = 10;
    private static final int PACKED_START = 3;
    private static final int PACKED_FIELD = 6;
    private static final int BROKEN_STEP = 1000000;
    private static final int PAPER_COUNTS = 100;

    private final int kind;
    private final Sheet sheet;
    private final Codes codes;
    private final Papers papers;
    private final Reader reader;
    private int today;
    private boolean lodged;

    public DeclareForms(int kind) {
        this.kind = Math.max(0, Math.min(MOST_KIND, kind));
        this.sheet = new Sheet();
        this.codes = new Codes();
        this.papers = new Papers();
        this.reader = new Reader();
        this.today = 0;
        this.lodged = false;
    }

    public int line() throws IllegalStateException {
        if (lodged || sheet.isFull()) {
            throw new IllegalStateException("no further line");
        }
        return sheet.openLine();
    }

    public int remove(int line) {
        if (lodged || !sheet.hasLine(line)) {
            return NONE;
        }
        papers.giveBack(line);
        return sheet.dropLine(line);
    }

    public int field(int f, int line, long v) throws IllegalArgumentException {
        int slot = sheet.slotOf(f, line);
        if (slot == NONE || !isValue(v)) {
            throw new IllegalArgumentException("no such field, line or value");
        }
        if (lodged || needBy(kind, f) == FORBIDDEN) {
            return 0;
        }
        sheet.put(slot, (int) v);
        return 1;
    }

    public boolean clear(int f, int line) {
        int slot = sheet.slotOf(f, line);
        if (lodged || slot == NONE || sheet.valueAt(slot) == NONE) {
            return false;
        }
        sheet.put(slot, NONE);
        return true;
    }

    public long value(int f, int line) throws IllegalArgumentException {
        int slot = sheet.slotOf(f, line);
        if (slot == NONE) {
            throw new IllegalArgumentException("no such field or line");
        }
        return sheet.valueAt(slot);
    }

    public int need(int f) throws IllegalArgumentException {
        if (f < 0 || f > MOST_FIELD) {
            throw new IllegalArgumentException("no such field");
        }
        return needBy(kind, f);
    }

    public boolean code(long v, int until) {
        if (!isValue(v) || until < 0 || until > MOST_DAY) {
            return false;
        }
        return codes.tell((int) v, until);
    }

    public boolean day(int day) {
        if (day < today || day > MOST_DAY) {
            return false;
        }
        today = day;
        return true;
    }

    public int check() {
        int missing = sheet.firstMissing(kind);
        if (missing != NONE) {
            return BROKEN_STEP + placeOf(missing);
        }
        if (sheet.sumIsWrong(2, 12)) {
            return 2 * BROKEN_STEP;
        }
        if (sheet.sumIsWrong(3, 13)) {
            return 3 * BROKEN_STEP;
        }
        int uncoded = firstWithoutGoodCode();
        if (uncoded != NONE) {
            return 4 * BROKEN_STEP + placeOf(uncoded);
        }
        return sheet.lineCount() == 0 ? 5 * BROKEN_STEP : 0;
    }

    public int lodge() {
        if (lodged || check() != 0) {
            return 0;
        }
        lodged = true;
        return 1;
    }

    public int amend(int f, int line, long v)
            throws IllegalArgumentException, IllegalStateException {
        int slot = sheet.slotOf(f, line);
        if (slot == NONE || !isValue(v)) {
            throw new IllegalArgumentException("no such field, line or value");
        }
        if (!lodged) {
            throw new IllegalStateException("not lodged");
        }
        if (f % 3 == 0 || needBy(kind, f) == FORBIDDEN) {
            return 0;
        }
        int before = sheet.valueAt(slot);
        sheet.put(slot, (int) v);
        if (check() != 0) {
            sheet.put(slot, before);
            return 0;
        }
        return 1;
    }

    public boolean paper(int number, int balance) {
        if (number < 1 || number > MOST_PAPER_NUMBER || balance < 0 || balance > MOST_BALANCE) {
            return false;
        }
        return papers.register(number, balance);
    }

    public int draw(int line, int number, int n) throws IllegalArgumentException {
        int at = papers.find(number);
        if (!sheet.hasLine(line) || at == NONE || n < 1 || n > MOST_DRAWN) {
            throw new IllegalArgumentException("no such line, paper or amount");
        }
        return lodged ? -1 : papers.take(line, at, n);
    }

    public long sum(int f) throws IllegalArgumentException {
        if (f < ROW || f > MOST_FIELD) {
            throw new IllegalArgumentException("no field of lines");
        }
        return sheet.total(f);
    }

    public int pack() {
        return PACKED_START + PACKED_FIELD * sheet.setCount();
    }

    public byte octet(int i) throws IndexOutOfBoundsException {
        if (i < 0 || i >= pack()) {
            throw new IndexOutOfBoundsException("no such byte");
        }
        if (i == 0) {
            return (byte) kind;
        }
        if (i < PACKED_START) {
            return byteOf(sheet.setCount(), PACKED_START - 1 - i);
        }
        int slot = sheet.setSlot((i - PACKED_START) / PACKED_FIELD);
        return packedByte(slot, (i - PACKED_START) % PACKED_FIELD);
    }

    public int read(byte b) {
        return reader.accept(b & 255);
    }

    public int count(int what) {
        switch (what) {
            case 0: return sheet.lineCount();
            case 1: return sheet.setCount();
            case 2: return lodged ? 1 : 0;
            case 3: return codes.goodCount(today);
            case 4: return papers.size();
            case 5: return today;
            case 6: return kind;
            case 7: return reader.wholeRows();
            case 8: return reader.latestFields();
            default: return what < PAPER_COUNTS ? NONE : papers.balanceOf(what - PAPER_COUNTS);
        }
    }

    private static boolean isValue(long v) {
        return v >= 0 && v <= MOST_VALUE;
    }

    private static int needBy(int kind, int f) {
        return (3 * f + 5 * kind) % 4;
    }

    private static int lineOf(int slot) {
        return slot / ROW;
    }

    private static int fieldOf(int slot) {
        return slot < ROW ? slot : ROW + slot % ROW;
    }

    private static int placeOf(int slot) {
        return 100 * lineOf(slot) + fieldOf(slot);
    }

    /** Byte 0 is the lowest. */
    private static byte byteOf(int number, int which) {
        return (byte) (number >>> (8 * which));
    }

    private byte packedByte(int slot, int part) {
        if (part == 0) {
            return (byte) fieldOf(slot);
        }
        if (part == 1) {
            return (byte) lineOf(slot);
        }
        return byteOf(sheet.valueAt(slot), PACKED_FIELD - 1 - part);
    }

    private int firstWithoutGoodCode() {
        for (int line = 1; line <= MOST_LINE; line++) {
            int slot = sheet.slotOf(CODE_FIELD, line);
            int v = sheet.valueAt(slot);
            if (v != NONE && !codes.isGood(v, today)) {
                return slot;
            }
        }
        return NONE;
    }

    /**
     * The lines and what is set. A slot is line * ROW + field mod ROW, so slots ascending are the
     * document's order: head first, lines by number, fields ascending.
     */
    private static final class Sheet {
        private final int[] values = new int[(MOST_LINE + 1) * ROW];
        private final boolean[] open = new boolean[MOST_LINE + 1];
        private int made;
        private int opened;
        private int filled;

        Sheet() {
            Arrays.fill(values, NONE);
        }

        boolean isFull() {
            return made >= MOST_LINE;
        }

        boolean hasLine(int line) {
            return line >= 1 && line <= MOST_LINE && open[line];
        }

        int lineCount() {
            return opened;
        }

        int setCount() {
            return filled;
        }

        int openLine() {
            if (isFull()) {
                return NONE;
            }
            made++;
            opened++;
            open[made] = true;
            return made;
        }

        int dropLine(int line) {
            if (!hasLine(line)) {
                return NONE;
            }
            int before = filled;
            for (int i = 0; i < ROW; i++) {
                put(line * ROW + i, NONE);
            }
            open[line] = false;
            opened--;
            return before - filled;
        }

        /** NONE if there is no such line, or no such field in it. */
        int slotOf(int f, int line) {
            if (f < 0 || f > MOST_FIELD) {
                return NONE;
            }
            if (f < ROW) {
                return line == 0 ? f : NONE;
            }
            return hasLine(line) ? line * ROW + f - ROW : NONE;
        }

        int valueAt(int slot) {
            return slot < 0 || slot >= values.length ? NONE : values[slot];
        }

        /** NONE as the value leaves the slot not set. */
        void put(int slot, int v) {
            if (slot < 0 || slot >= values.length) {
                return;
            }
            if (values[slot] != NONE) {
                filled--;
            }
            if (v != NONE) {
                filled++;
            }
            values[slot] = v;
        }

        int firstMissing(int kind) {
            for (int slot = 0; slot < values.length; slot++) {
                boolean there = slot < ROW || hasLine(lineOf(slot));
                if (there && values[slot] == NONE && needBy(kind, fieldOf(slot)) == WANTED) {
                    return slot;
                }
            }
            return NONE;
        }

        boolean sumIsWrong(int headField, int lineField) {
            int told = valueAt(slotOf(headField, 0));
            return told != NONE && told != total(lineField);
        }

        long total(int f) {
            long total = 0;
            for (int line = 1; line <= MOST_LINE; line++) {
                total += Math.max(0, valueAt(slotOf(f, line)));
            }
            return total;
        }

        /** The slot of the field that is set with n set ones before it; NONE if there is none. */
        int setSlot(int n) {
            int before = 0;
            for (int slot = 0; slot < values.length; slot++) {
                if (values[slot] != NONE) {
                    if (before == n) {
                        return slot;
                    }
                    before++;
                }
            }
            return NONE;
        }
    }

    private static final class Codes {
        private final int[] values = new int[MOST_CODES];
        private final int[] lastDays = new int[MOST_CODES];
        private int held;

        boolean tell(int v, int until) {
            int at = find(v);
            if (at == NONE) {
                if (held >= MOST_CODES) {
                    return false;
                }
                at = held;
                held++;
                values[at] = v;
            }
            lastDays[at] = until;
            return true;
        }

        boolean isGood(int v, int today) {
            int at = find(v);
            return at != NONE && lastDays[at] >= today;
        }

        int goodCount(int today) {
            int good = 0;
            for (int i = 0; i < held; i++) {
                if (lastDays[i] >= today) {
                    good++;
                }
            }
            return good;
        }

        private int find(int v) {
            for (int i = 0; i < held; i++) {
                if (values[i] == v) {
                    return i;
                }
            }
            return NONE;
        }
    }

    private static final class Papers {
        private final int[] numbers = new int[MOST_PAPERS];
        private final int[] balances = new int[MOST_PAPERS];
        /** What line l drew from paper p stands at l * MOST_PAPERS + p, to come back with it. */
        private final int[] drawn = new int[(MOST_LINE + 1) * MOST_PAPERS];
        private int held;

        int size() {
            return held;
        }

        boolean register(int number, int balance) {
            if (held >= MOST_PAPERS || find(number) != NONE) {
                return false;
            }
            numbers[held] = number;
            balances[held] = balance;
            held++;
            return true;
        }

        int find(int number) {
            for (int i = 0; i < held; i++) {
                if (numbers[i] == number) {
                    return i;
                }
            }
            return NONE;
        }

        int balanceOf(int number) {
            int at = find(number);
            return at == NONE ? NONE : balances[at];
        }

        int take(int line, int at, int n) {
            if (line < 0 || line > MOST_LINE || at < 0 || at >= held || balances[at] < n) {
                return -1;
            }
            balances[at] -= n;
            drawn[line * MOST_PAPERS + at] += n;
            return balances[at];
        }

        /** Once for a line: its number never comes again, so what it drew need not be wiped. */
        void giveBack(int line) {
            if (line < 0 || line > MOST_LINE) {
                return;
            }
            for (int i = 0; i < held; i++) {
                balances[i] += drawn[line * MOST_PAPERS + i];
            }
        }
    }

    /** Knows nothing of the form: a row is judged by the kind that the row itself tells. */
    private static final class Reader {
        private static final int AT_KIND = 0;
        private static final int AT_HIGHER = 1;
        private static final int AT_LOWER = 2;
        private static final int AT_FIELD = 3;
        private static final int AT_LINE = 4;
        private static final int AT_LAST_VALUE = 8;

        private int place;
        private int rowKind;
        private int fields;
        private int fieldsLeft;
        private int rowField;
        private int lastSlot;
        private long rowValue;
        private int whole;
        private int latest;

        int wholeRows() {
            return whole;
        }

        int latestFields() {
            return latest;
        }

        /** Takes a byte as 0 .. 255. */
        int accept(int b) {
            if (!stands(b)) {
                place = AT_KIND;
                return -1;
            }
            if (place == AT_LAST_VALUE) {
                fieldsLeft--;
            }
            if ((place == AT_LOWER || place == AT_LAST_VALUE) && fieldsLeft == 0) {
                whole++;
                latest = fields;
                place = AT_KIND;
                return 1;
            }
            place = place == AT_LAST_VALUE ? AT_FIELD : place + 1;
            return 0;
        }

        private boolean stands(int b) {
            switch (place) {
                case AT_KIND: return takeKind(b);
                case AT_HIGHER: return takeHigher(b);
                case AT_LOWER: return takeLower(b);
                case AT_FIELD: return takeField(b);
                case AT_LINE: return takeLine(b);
                default: return takeValue(b);
            }
        }

        private boolean takeKind(int b) {
            rowKind = b;
            lastSlot = NONE;
            return b <= MOST_KIND;
        }

        private boolean takeHigher(int b) {
            fields = b * 256;
            return fields <= MOST_PACKED_FIELDS;
        }

        private boolean takeLower(int b) {
            fields += b;
            fieldsLeft = fields;
            return fields <= MOST_PACKED_FIELDS;
        }

        /** A forbidden field is known here already, so this is the first byte that can't stand. */
        private boolean takeField(int b) {
            rowField = b;
            return b <= MOST_FIELD && needBy(rowKind, b) != FORBIDDEN;
        }

        private boolean takeLine(int b) {
            boolean fits = rowField < ROW ? b == 0 : b >= 1 && b <= MOST_LINE;
            int slot = b * ROW + rowField % ROW;
            boolean behind = slot > lastSlot;
            lastSlot = slot;
            rowValue = 0;
            return fits && behind;
        }

        private boolean takeValue(int b) {
            rowValue = rowValue * 256 + b;
            return place != AT_LAST_VALUE || rowValue <= MOST_VALUE;
        }
    }
}
