import java.util.ArrayList;
import java.util.List;
import java.util.Map;
import java.util.Random;
import java.util.TreeMap;
import java.util.TreeSet;

/**
 * Long mixed runs of calls, each answer beside that of a slow model that keeps the form in maps.
 * The seeds are fixed, so that a run that fails can be run again.
 */
public final class ModelRuns {
    private static final int RUNS = 1000;
    private static final int CALLS = 512;
    private static final long ARGUMENT = -1001;
    private static final long STATE = -1002;
    private static final long BOUNDS = -1003;

    public static void main(String[] args) {
        int lodged = 0;
        for (int seed = 0; seed < RUNS; seed++) {
            lodged += run(seed);
        }
        if (lodged < RUNS / 4) {
            fail("too few forms were lodged for the runs to tell much: " + lodged);
        }
        System.out.println(RUNS + " runs are as the model's, " + lodged + " forms lodged");
    }

    private static void fail(String text) {
        System.out.println(text);
        System.exit(1);
    }

    private static int run(int seed) {
        Random random = new Random(seed);
        int kind = random.nextInt(6) - 1;
        DeclareForms form = new DeclareForms(kind);
        Model model = new Model(kind);
        List<Integer> row = new ArrayList<>();
        for (int i = 0; i < CALLS; i++) {
            String call = seed + ": " + one(random, form, model, row);
            if (last[0] != last[1]) {
                fail("run " + call + " answered " + last[0] + ", due is " + last[1]);
            }
        }
        return model.lodged ? 1 : 0;
    }

    /** What the form and the model answered to the latest call. */
    private static final long[] last = new long[2];

    private static String one(Random r, DeclareForms x, Model m, List<Integer> row) {
        int f = r.nextInt(40) == 0 ? r.nextInt(24) - 2 : r.nextInt(20);
        int line = f < 10 && r.nextInt(20) != 0 ? 0 : r.nextInt(m.made + 2);
        long v = r.nextInt(30) == 0 ? 999999998L + r.nextInt(4) : r.nextInt(7) - 1;
        int which = r.nextInt(24);
        if (which < 10) {
            return onFields(which, x, m, f, line, v);
        }
        if (which < 14) {
            return onDaysAndPapers(which, r, x, m, line, v);
        }
        if (which < 20) {
            return onPacking(which, r, x, m, row);
        }
        return mend(r, x, m);
    }

    private static String onFields(int which, DeclareForms x, Model m, int f, int line, long v) {
        String at = "(" + f + ", " + line + ", " + v + ")";
        switch (which) {
            case 0: return told("line()", line(x), m.line());
            case 1: return told("clear" + at, x.clear(f, line) ? 1 : 0, m.clear(f, line));
            case 2: return told("value" + at, value(x, f, line), m.value(f, line));
            case 3: return told("sum" + at, sum(x, f), m.sumOf(f));
            case 4: case 5: return told("amend" + at, amend(x, f, line, v), m.amend(f, line, v));
            case 6: return told("check()", x.check(), m.check());
            default: return told("field" + at, field(x, f, line, v), m.field(f, line, v));
        }
    }

    private static String onDaysAndPapers(int which, Random r, DeclareForms x, Model m, int line, long v) {
        int n = r.nextInt(5);
        int number = r.nextInt(25);
        int until = m.today + n - 1;
        int day = r.nextInt(4) == 0 ? m.today + n - 2 : m.today;
        String at = "(" + line + ", " + number + ", " + n + ")";
        switch (which) {
            case 10: return told("code(" + v + ", " + until + ")", x.code(v, until) ? 1 : 0, m.code(v, until));
            case 11: return told("day(" + day + ")", x.day(day) ? 1 : 0, m.day(day));
            case 12: return told("paper" + at, x.paper(number, n + 9) ? 1 : 0, m.paper(number, n + 9));
            default: return told("draw" + at, draw(x, line, number, n), m.draw(line, number, n));
        }
    }

    private static String onPacking(int which, Random r, DeclareForms x, Model m, List<Integer> row) {
        int i = r.nextInt(m.bytes().size() + 2) - 1;
        int what = r.nextInt(3) == 0 ? 100 + r.nextInt(25) : r.nextInt(11) - 1;
        int gone = r.nextInt(4) == 0 ? r.nextInt(m.made + 2) : 0;
        switch (which) {
            case 14: return told("pack()", x.pack(), m.bytes().size());
            case 15: return told("octet(" + i + ")", octet(x, i), m.octet(i));
            case 16: return told("remove(" + gone + ")", x.remove(gone), m.remove(gone));
            case 17: return told("count(" + what + ")", x.count(what), m.count(what));
            default: int b = nextByte(r, m, row); return told("read(" + b + ")", x.read((byte) b), m.read(b));
        }
    }

    private static String told(String call, long got, long want) {
        last[0] = got;
        last[1] = want;
        return call;
    }

    /** Mending what is broken leads runs to forms that can be lodged. */
    private static String mend(Random r, DeclareForms x, Model m) {
        int broken = m.check();
        int line = broken / 100 % 100;
        int f = broken % 100;
        long v = m.value(f, line);
        int until = Math.min(100000, m.today + r.nextInt(9));
        switch (broken / 1000000) {
            case 1: return told("field(" + f + ", " + line + ", 1)", field(x, f, line, 1), m.field(f, line, 1));
            case 2: return told("field(2, 0, sum)", field(x, 2, 0, m.sumOf(12)), m.field(2, 0, m.sumOf(12)));
            case 3: return told("field(3, 0, sum)", field(x, 3, 0, m.sumOf(13)), m.field(3, 0, m.sumOf(13)));
            case 4: return told("code(" + v + ", " + until + ")", x.code(v, until) ? 1 : 0, m.code(v, until));
            case 5: return told("line()", line(x), m.line());
            default: return r.nextInt(12) == 0 ? told("lodge()", x.lodge(), m.lodge()) : told("check()", x.check(), m.check());
        }
    }

    /** A short form's own packing or one field of some kind, now and then with another byte. */
    private static int nextByte(Random r, Model m, List<Integer> row) {
        if (row.isEmpty() || m.coming.isEmpty()) {
            row.clear();
            row.addAll(m.bytes().size() > 40 ? oneFieldRow(r) : m.bytes());
        }
        int b = row.remove(0);
        return r.nextInt(30) == 0 ? r.nextInt(256) : b;
    }

    private static List<Integer> oneFieldRow(Random r) {
        return List.of(r.nextInt(5), 0, r.nextInt(2), r.nextInt(21), r.nextInt(3), 59, 154, 202, r.nextInt(2));
    }

    private static long line(DeclareForms x) {
        try { return x.line(); } catch (IllegalStateException e) { return STATE; }
    }

    private static long field(DeclareForms x, int f, int line, long v) {
        try { return x.field(f, line, v); } catch (IllegalArgumentException e) { return ARGUMENT; }
    }

    private static long value(DeclareForms x, int f, int line) {
        try { return x.value(f, line); } catch (IllegalArgumentException e) { return ARGUMENT; }
    }

    private static long amend(DeclareForms x, int f, int line, long v) {
        try { return x.amend(f, line, v); } catch (IllegalArgumentException e) { return ARGUMENT; } catch (IllegalStateException e) { return STATE; }
    }

    private static long draw(DeclareForms x, int line, int number, int n) {
        try { return x.draw(line, number, n); } catch (IllegalArgumentException e) { return ARGUMENT; }
    }

    private static long sum(DeclareForms x, int f) {
        try { return x.sum(f); } catch (IllegalArgumentException e) { return ARGUMENT; }
    }

    private static long octet(DeclareForms x, int i) {
        try { return x.octet(i); } catch (IndexOutOfBoundsException e) { return BOUNDS; }
    }

    private static final class Model {
        final int kind;
        final TreeSet<Integer> lines = new TreeSet<>();
        /** By 100 * line + field. */
        final TreeMap<Integer, Long> set = new TreeMap<>();
        final Map<Long, Integer> codes = new TreeMap<>();
        final Map<Integer, Integer> papers = new TreeMap<>();
        /** Each drawing: line, paper, amount. */
        final List<int[]> drawings = new ArrayList<>();
        final List<Integer> coming = new ArrayList<>();
        int made;
        int today;
        boolean lodged;
        int whole;
        int latest;

        Model(int kind) {
            this.kind = kind < 0 ? 0 : kind > 3 ? 3 : kind;
        }

        static int need(int kind, int f) {
            return Math.floorMod(kind - f, 4);
        }

        boolean exists(int f, int line) {
            return line == 0 ? f >= 0 && f <= 9 : lines.contains(line) && f >= 10 && f <= 19;
        }

        static boolean wrongValue(long v) {
            return v < 0 || v > 1000000000L;
        }

        long line() {
            if (made == 30 || lodged) {
                return STATE;
            }
            lines.add(++made);
            return made;
        }

        long remove(int line) {
            if (lodged || !lines.remove(line)) {
                return -1;
            }
            int before = set.size();
            set.keySet().removeIf(k -> k / 100 == line);
            drawings.removeIf(d -> d[0] == line);
            return before - set.size();
        }

        long field(int f, int line, long v) {
            if (!exists(f, line) || wrongValue(v)) {
                return ARGUMENT;
            }
            if (lodged || need(kind, f) == 3) {
                return 0;
            }
            set.put(100 * line + f, v);
            return 1;
        }

        long clear(int f, int line) {
            return lodged || !exists(f, line) || set.remove(100 * line + f) == null ? 0 : 1;
        }

        long value(int f, int line) {
            return exists(f, line) ? set.getOrDefault(100 * line + f, -1L) : ARGUMENT;
        }

        long code(long v, int until) {
            if (wrongValue(v) || until < 0 || until > 100000) {
                return 0;
            }
            if (codes.size() == 20 && !codes.containsKey(v)) {
                return 0;
            }
            codes.put(v, until);
            return 1;
        }

        long day(int day) {
            if (day < today || day > 100000) {
                return 0;
            }
            today = day;
            return 1;
        }

        int check() {
            for (int place = 0; place <= 3019; place++) {
                if (exists(place % 100, place / 100) && need(kind, place % 100) == 0 && !set.containsKey(place)) {
                    return 1000000 + place;
                }
            }
            for (int f = 2; f <= 3; f++) {
                if (set.containsKey(f) && set.get(f) != sumOf(10 + f)) {
                    return 1000000 * f;
                }
            }
            for (int line : lines) {
                Long v = set.get(100 * line + 10);
                if (v != null && codes.getOrDefault(v, -1) < today) {
                    return 4000010 + 100 * line;
                }
            }
            return lines.isEmpty() ? 5000000 : 0;
        }

        long lodge() {
            if (lodged || check() != 0) {
                return 0;
            }
            lodged = true;
            return 1;
        }

        long amend(int f, int line, long v) {
            if (!exists(f, line) || wrongValue(v)) {
                return ARGUMENT;
            }
            if (!lodged) {
                return STATE;
            }
            if (List.of(0, 3, 6, 9, 12, 15, 18).contains(f) || need(kind, f) == 3) {
                return 0;
            }
            TreeMap<Integer, Long> before = new TreeMap<>(set);
            set.put(100 * line + f, v);
            if (check() == 0) {
                return 1;
            }
            set.clear();
            set.putAll(before);
            return 0;
        }

        long paper(int number, int balance) {
            if (number < 1 || papers.size() == 20 || papers.containsKey(number)) {
                return 0;
            }
            papers.put(number, balance);
            return 1;
        }

        int left(int number) {
            int left = papers.getOrDefault(number, -1);
            for (int[] d : drawings) {
                left -= d[1] == number ? d[2] : 0;
            }
            return left;
        }

        long draw(int line, int number, int n) {
            if (!lines.contains(line) || !papers.containsKey(number) || n < 1) {
                return ARGUMENT;
            }
            if (lodged || left(number) < n) {
                return -1;
            }
            drawings.add(new int[] {line, number, n});
            return left(number);
        }

        long sumOf(int f) {
            if (f < 10 || f > 19) {
                return ARGUMENT;
            }
            long sum = 0;
            for (int line : lines) {
                sum += set.getOrDefault(100 * line + f, 0L);
            }
            return sum;
        }

        List<Integer> bytes() {
            List<Integer> bytes = new ArrayList<>(List.of(kind, set.size() / 256, set.size() % 256));
            set.forEach((place, v) -> {
                bytes.add(place % 100);
                bytes.add(place / 100);
                for (long unit = 1L << 24; unit > 0; unit /= 256) {
                    bytes.add((int) (v / unit % 256));
                }
            });
            return bytes;
        }

        long octet(int i) {
            List<Integer> bytes = bytes();
            return i < 0 || i >= bytes.size() ? BOUNDS : (byte) (int) bytes.get(i);
        }

        /** Judges the whole row so far anew with each byte. */
        long read(int b) {
            coming.add(b & 255);
            int verdict = verdict(coming);
            if (verdict == 1) {
                whole++;
                latest = coming.get(1) * 256 + coming.get(2);
            }
            if (verdict != 0) {
                coming.clear();
            }
            return verdict;
        }

        static int verdict(List<Integer> row) {
            int size = row.size();
            if (row.get(0) > 3 || size > 1 && row.get(1) > 2) {
                return -1;
            }
            if (size < 3) {
                return 0;
            }
            int fields = row.get(1) * 256 + row.get(2);
            if (fields > 610) {
                return -1;
            }
            int before = -1;
            for (int at = 3; at < size; at += 6) {
                int f = row.get(at);
                if (f > 19 || need(row.get(0), f) == 3) {
                    return -1;
                }
                if (at + 1 < size) {
                    int line = row.get(at + 1);
                    boolean fits = f < 10 ? line == 0 : line > 0 && line < 31;
                    if (!fits || 100 * line + f <= before) {
                        return -1;
                    }
                    before = 100 * line + f;
                }
                if (at + 5 < size && valueOf(row, at + 2) > 1000000000L) {
                    return -1;
                }
            }
            return size == 3 + 6 * fields ? 1 : 0;
        }

        static long valueOf(List<Integer> row, int at) {
            long v = 0;
            for (int i = 0; i < 4; i++) {
                v = 256 * v + row.get(at + i);
            }
            return v;
        }

        long count(int what) {
            switch (what) {
                case 0: return lines.size();
                case 1: return set.size();
                case 2: return lodged ? 1 : 0;
                case 3: return codes.values().stream().filter(until -> until >= today).count();
                case 4: return papers.size();
                case 5: return today;
                case 6: return kind;
                case 7: return whole;
                case 8: return latest;
                default: return what > 100 && papers.containsKey(what - 100) ? left(what - 100) : -1;
            }
        }
    }
}
