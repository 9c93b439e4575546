import java.util.ArrayList;
import java.util.List;
import java.util.Map;
import java.util.TreeMap;
import java.util.TreeSet;

/**
 * The document read once more, in another way: a table becomes a tree of objects, and a run is set
 * by asking those. It is slow and keeps nothing, and serves as a second opinion.
 */
final class Model {
    static final int HEAD = -1;
    static final int SCRIPTS = -2;
    static final int FEATURES = -3;
    static final int LOOKUPS = -4;

    /** Something is not as said. */
    private static final class Wrong extends RuntimeException {
        private static final long serialVersionUID = 1;
    }

    private record Point(int x, int y) {
    }

    private record Script(Language standard, Map<Long, Language> languages) {
    }

    private record Language(int required, List<Integer> features) {
    }

    private record Feature(long tag, List<Integer> lookups) {
    }

    private record Lookup(int flag, List<Subtable> subtables) {
    }

    /** What a kind of subtable does with a glyph: where to go on, or null if it does not take it. */
    private interface Subtable {
        Integer take(Glyph[] run, int i, int flag, boolean back);
    }

    /** A glyph of a run, with what was told of it and what became of it. */
    static final class Glyph {
        int glyph;
        int part;
        int kind;
        int marks;
        int width;
        int higher;
        int right;
        int up;
        int on = -1;
        int by;
        int byX;
        int byY;

        boolean passed(int flag) {
            boolean byKind = kind == 1 && (flag & 2) != 0 || kind == 2 && (flag & 4) != 0
                    || kind == 3 && (flag & 8) != 0;
            return byKind || flag / 256 != 0 && kind == 3 && marks != flag / 256;
        }

        void give(int[] value) {
            right += value[0];
            up += value[1];
            width += value[2];
            higher += value[3];
        }
    }

    private final byte[] table;
    private int seen;
    private Map<Long, Script> scripts;
    private List<Feature> features;
    private List<Lookup> lookups;
    final int answer;

    Model(byte[] table) {
        this.table = table;
        this.answer = read();
    }

    private int read() {
        int part = HEAD;
        try {
            must(u16(0) == 1 && u16(2) == 0);
            must(u16(4) != 0);
            must(u16(6) != 0);
            must(u16(8) != 0);
            part = SCRIPTS;
            scripts = readScripts(u16(4));
            part = FEATURES;
            features = readFeatures(u16(6));
            part = LOOKUPS;
            lookups = readLookups(u16(8));
            return lookups.size();
        } catch (Wrong wrong) {
            return part;
        }
    }

    private static void must(boolean asSaid) {
        if (!asSaid) {
            throw new Wrong();
        }
    }

    private int u8(int at) {
        must(at >= 0 && at < table.length);
        return table[at] & 255;
    }

    private int u16(int at) {
        return u8(at) * 256 + u8(at + 1);
    }

    private int s16(int at) {
        int number = u16(at);
        return number >= 32768 ? number - 65536 : number;
    }

    private long u32(int at) {
        return u16(at) * 65536L + u16(at + 2);
    }

    private void look() {
        seen++;
        must(seen <= 20000);
    }

    private int count(int at, int most) {
        int n = u16(at);
        must(n <= most);
        return n;
    }

    private Map<Long, Script> readScripts(int at) {
        Map<Long, Script> found = new TreeMap<>();
        long before = -1;
        int n = count(at, 64);
        for (int k = 0; k < n; k++) {
            long tag = u32(at + 2 + 6 * k);
            must(tag > before);
            before = tag;
            found.put(tag, readScript(at + u16(at + 2 + 6 * k + 4)));
        }
        return found;
    }

    private Script readScript(int at) {
        Language standard = u16(at) == 0 ? null : readLanguage(at + u16(at));
        Map<Long, Language> found = new TreeMap<>();
        long before = -1;
        int n = count(at + 2, 64);
        for (int k = 0; k < n; k++) {
            long tag = u32(at + 4 + 6 * k);
            must(tag > before);
            before = tag;
            found.put(tag, readLanguage(at + u16(at + 4 + 6 * k + 4)));
        }
        return new Script(standard, found);
    }

    private Language readLanguage(int at) {
        u16(at);
        int required = u16(at + 2);
        must(required == 65535 || required < u16(u16(6)));
        List<Integer> numbers = new ArrayList<>();
        int n = count(at + 4, 64);
        for (int k = 0; k < n; k++) {
            int number = u16(at + 6 + 2 * k);
            must(number < u16(u16(6)));
            numbers.add(number);
        }
        return new Language(required, numbers);
    }

    private List<Feature> readFeatures(int at) {
        List<Feature> found = new ArrayList<>();
        int n = count(at, 64);
        for (int k = 0; k < n; k++) {
            long tag = u32(at + 2 + 6 * k);
            must(k == 0 || tag >= found.get(k - 1).tag);
            int feature = at + u16(at + 6 + 6 * k);
            u16(feature);
            List<Integer> numbers = new ArrayList<>();
            int m = count(feature + 2, 64);
            for (int j = 0; j < m; j++) {
                int number = u16(feature + 4 + 2 * j);
                must(number < u16(u16(8)));
                numbers.add(number);
            }
            found.add(new Feature(tag, numbers));
        }
        return found;
    }

    private List<Lookup> readLookups(int at) {
        List<Lookup> found = new ArrayList<>();
        int n = count(at, 64);
        for (int k = 0; k < n; k++) {
            found.add(readLookup(at + u16(at + 2 + 2 * k)));
        }
        return found;
    }

    private Lookup readLookup(int at) {
        int type = u16(at);
        int flag = u16(at + 2);
        must(type == 9 || type >= 1 && type <= 6);
        must(flag / 16 % 2 == 0);
        List<Subtable> subtables = new ArrayList<>();
        int n = count(at + 4, 16);
        int same = 0;
        for (int k = 0; k < n; k++) {
            int sub = at + u16(at + 6 + 2 * k);
            if (type == 9) {
                must(u16(sub) == 1);
                int inner = u16(sub + 2);
                must(inner >= 1 && inner <= 6 && (same == 0 || inner == same));
                same = inner;
                must(u32(sub + 4) < table.length);
                subtables.add(readSubtable(inner, sub + (int) u32(sub + 4)));
            } else {
                subtables.add(readSubtable(type, sub));
            }
        }
        return new Lookup(flag, subtables);
    }

    private Subtable readSubtable(int type, int at) {
        int form = u16(at);
        if (type == 1) {
            return form == 1 ? readSingle(at) : readSingles(at, form);
        }
        if (type == 2) {
            return form == 1 ? readPairs(at) : readPairClasses(at, form);
        }
        must(form == 1);
        return type == 3 ? readCursive(at) : readMarks(type, at);
    }

    /** Glyph to INDEX: of each range the first glyph leads to its last and its first INDEX. */
    private final class Coverage {
        final TreeMap<Integer, int[]> ranges = new TreeMap<>();
        int covered;

        Coverage(int at) {
            look();
            int form = u16(at);
            int n = u16(at + 2);
            must(form == 1 || form == 2);
            int before = -1;
            for (int k = 0; k < n; k++) {
                int first = form == 1 ? u16(at + 4 + 2 * k) : u16(at + 4 + 6 * k);
                int last = form == 1 ? first : u16(at + 6 + 6 * k);
                must(first > before && last >= first);
                before = last;
                must(form == 1 || u16(at + 8 + 6 * k) == covered);
                ranges.put(first, new int[] {last, covered});
                covered += last - first + 1;
            }
        }

        Integer index(int glyph) {
            Map.Entry<Integer, int[]> range = ranges.floorEntry(glyph);
            if (range == null || glyph > range.getValue()[0]) {
                return null;
            }
            return range.getValue()[1] + glyph - range.getKey();
        }
    }

    private Map<Integer, int[]> readClasses(int at) {
        look();
        TreeMap<Integer, int[]> ranges = new TreeMap<>();
        int form = u16(at);
        must(form == 1 || form == 2);
        int n = form == 1 ? u16(at + 4) : u16(at + 2);
        int before = -1;
        for (int k = 0; k < n; k++) {
            int first = form == 1 ? u16(at + 2) + k : u16(at + 4 + 6 * k);
            int last = form == 1 ? first : u16(at + 6 + 6 * k);
            must(first > before && last >= first && last <= 65535);
            before = last;
            int number = form == 1 ? u16(at + 6 + 2 * k) : u16(at + 8 + 6 * k);
            ranges.put(first, new int[] {last, number});
        }
        return ranges;
    }

    private static int classOf(Map<Integer, int[]> classes, int glyph) {
        for (Map.Entry<Integer, int[]> range : classes.entrySet()) {
            if (range.getKey() <= glyph && glyph <= range.getValue()[0]) {
                return range.getValue()[1];
            }
        }
        return 0;
    }

    private Point readAnchor(int at) {
        look();
        must(u16(at) >= 1 && u16(at) <= 3);
        return new Point(s16(at + 2), s16(at + 4));
    }

    private Point readAnchorOrNone(int part, int place) {
        return u16(place) == 0 ? null : readAnchor(part + u16(place));
    }

    private int bits(int at) {
        int bits = u16(at);
        must(bits < 256);
        return bits;
    }

    private int[] readValue(int at, int bits) {
        int[] value = new int[8];
        int from = at;
        for (int bit = 0; bit < 8; bit++) {
            if ((bits & 1 << bit) != 0) {
                value[bit] = s16(from);
                from += 2;
            }
        }
        return value;
    }

    private Subtable readSingle(int at) {
        Coverage coverage = new Coverage(at + u16(at + 2));
        int[] value = readValue(at + 6, bits(at + 4));
        return (run, i, flag, back) -> {
            if (coverage.index(run[i].glyph) == null) {
                return null;
            }
            run[i].give(value);
            return i + 1;
        };
    }

    private Subtable readSingles(int at, int form) {
        must(form == 2);
        Coverage coverage = new Coverage(at + u16(at + 2));
        int bits = bits(at + 4);
        int n = count(at + 6, 256);
        must(n == coverage.covered);
        int[][] values = new int[n][];
        for (int k = 0; k < n; k++) {
            values[k] = readValue(at + 8 + k * 2 * Integer.bitCount(bits), bits);
        }
        return (run, i, flag, back) -> {
            Integer index = coverage.index(run[i].glyph);
            if (index == null) {
                return null;
            }
            run[i].give(values[index]);
            return i + 1;
        };
    }

    private static int next(Glyph[] run, int i, int flag) {
        for (int k = i + 1; k < run.length; k++) {
            if (!run[k].passed(flag)) {
                return k;
            }
        }
        return -1;
    }

    private Subtable readPairs(int at) {
        Coverage coverage = new Coverage(at + u16(at + 2));
        int one = bits(at + 4);
        int two = bits(at + 6);
        int n = count(at + 8, 256);
        must(n == coverage.covered);
        List<Map<Integer, int[][]>> rows = new ArrayList<>();
        for (int k = 0; k < n; k++) {
            rows.add(readRow(at + u16(at + 10 + 2 * k), one, two));
        }
        return (run, i, flag, back) -> {
            Integer index = coverage.index(run[i].glyph);
            int second = next(run, i, flag);
            if (index == null || second < 0 || !rows.get(index).containsKey(run[second].glyph)) {
                return null;
            }
            int[][] both = rows.get(index).get(run[second].glyph);
            run[i].give(both[0]);
            run[second].give(both[1]);
            return two != 0 ? second + 1 : i + 1;
        };
    }

    private Map<Integer, int[][]> readRow(int at, int one, int two) {
        look();
        int m = count(at, 256);
        int from = at + 2;
        int before = -1;
        Map<Integer, int[][]> row = new TreeMap<>();
        for (int k = 0; k < m; k++) {
            int glyph = u16(from);
            must(glyph > before);
            before = glyph;
            int behind = from + 2 + 2 * Integer.bitCount(one);
            row.put(glyph, new int[][] {readValue(from + 2, one), readValue(behind, two)});
            from = behind + 2 * Integer.bitCount(two);
        }
        return row;
    }

    private Subtable readPairClasses(int at, int form) {
        must(form == 2);
        Coverage coverage = new Coverage(at + u16(at + 2));
        int one = bits(at + 4);
        int two = bits(at + 6);
        Map<Integer, int[]> firsts = readClasses(at + u16(at + 8));
        Map<Integer, int[]> seconds = readClasses(at + u16(at + 10));
        int n = count(at + 12, 256);
        int m = count(at + 14, 256);
        int[][][] values = new int[n * m][2][];
        int from = at + 16;
        for (int k = 0; k < n * m; k++) {
            values[k][0] = readValue(from, one);
            from += 2 * Integer.bitCount(one);
            values[k][1] = readValue(from, two);
            from += 2 * Integer.bitCount(two);
        }
        return (run, i, flag, back) -> {
            int second = next(run, i, flag);
            if (coverage.index(run[i].glyph) == null || second < 0) {
                return null;
            }
            int a = classOf(firsts, run[i].glyph);
            int b = classOf(seconds, run[second].glyph);
            if (a >= n || b >= m) {
                return null;
            }
            run[i].give(values[a * m + b][0]);
            run[second].give(values[a * m + b][1]);
            return two != 0 ? second + 1 : i + 1;
        };
    }

    private Subtable readCursive(int at) {
        Coverage coverage = new Coverage(at + u16(at + 2));
        int n = count(at + 4, 256);
        must(n == coverage.covered);
        Point[] entries = new Point[n];
        Point[] exits = new Point[n];
        for (int k = 0; k < n; k++) {
            entries[k] = readAnchorOrNone(at, at + 6 + 4 * k);
            exits[k] = readAnchorOrNone(at, at + 8 + 4 * k);
        }
        return (run, i, flag, back) -> {
            int j = next(run, i, flag);
            Integer a = coverage.index(run[i].glyph);
            Integer b = j < 0 ? null : coverage.index(run[j].glyph);
            if (a == null || b == null || exits[a] == null || entries[b] == null) {
                return null;
            }
            if (!back) {
                run[i].width = exits[a].x + run[i].right;
                int d = entries[b].x + run[j].right;
                run[j].width -= d;
                run[j].right -= d;
            } else {
                run[j].width = entries[b].x + run[j].right;
                int d = exits[a].x + run[i].right;
                run[i].width -= d;
                run[i].right -= d;
            }
            run[j].on = i;
            run[j].by = 3;
            run[j].byX = 0;
            run[j].byY = exits[a].y - entries[b].y;
            return i + 1;
        };
    }

    /** Parts of bases; only of ligatures are there more than one. */
    private Point[][][] readBases(int type, int at, int covered, int c) {
        int n = count(at, 256);
        must(n == covered);
        Point[][][] bases = new Point[n][][];
        for (int k = 0; k < n; k++) {
            int part = at;
            int from = at + 2 + 2 * c * k;
            int p = 1;
            if (type == 5) {
                look();
                part = at + u16(at + 2 + 2 * k);
                p = count(part, 16);
                must(p >= 1);
                from = part + 2;
            }
            bases[k] = new Point[p][c];
            for (int j = 0; j < p * c; j++) {
                bases[k][j / c][j % c] = readAnchorOrNone(part, from + 2 * j);
            }
        }
        return bases;
    }

    private Subtable readMarks(int type, int at) {
        Coverage marks = new Coverage(at + u16(at + 2));
        Coverage covered = new Coverage(at + u16(at + 4));
        int c = count(at + 6, 16);
        int from = at + u16(at + 8);
        int n = count(from, 256);
        must(n == marks.covered);
        int[] classes = new int[n];
        Point[] own = new Point[n];
        for (int k = 0; k < n; k++) {
            classes[k] = u16(from + 2 + 4 * k);
            must(classes[k] < c);
            own[k] = readAnchor(from + u16(from + 4 + 4 * k));
        }
        Point[][][] bases = readBases(type, at + u16(at + 10), covered.covered, c);
        return (run, i, flag, back) -> {
            Integer mark = marks.index(run[i].glyph);
            int on = i - 1;
            while (on >= 0 && (type == 6 ? run[on].passed(flag) : run[on].kind == 3)) {
                on--;
            }
            if (mark == null || on < 0 || type == 6 && run[on].kind != 3) {
                return null;
            }
            Integer base = covered.index(run[on].glyph);
            if (base == null) {
                return null;
            }
            Point[][] parts = bases[base];
            int k = type == 5 ? run[i].part : 1;
            if (k == 0 || k > parts.length) {
                k = parts.length;
            }
            Point anchor = parts[k - 1][classes[mark]];
            if (anchor == null) {
                return null;
            }
            run[i].on = on;
            run[i].by = type;
            run[i].byX = anchor.x - own[mark].x;
            run[i].byY = anchor.y - own[mark].y;
            run[i].right = 0;
            run[i].up = 0;
            return i + 1;
        };
    }

    private TreeSet<Integer> wanted(int script, int language, Map<Integer, Boolean> on) {
        TreeSet<Integer> numbers = new TreeSet<>();
        Script s = scripts.get(script & 0xffffffffL);
        if (s == null) {
            s = scripts.get(0x44464c54L);
        }
        if (s == null) {
            return numbers;
        }
        Language l = s.languages.get(language & 0xffffffffL);
        if (l == null) {
            l = s.standard;
        }
        if (l == null) {
            return numbers;
        }
        if (l.required != 65535) {
            numbers.addAll(features.get(l.required).lookups);
        }
        for (int number : l.features) {
            if (on.getOrDefault((int) features.get(number).tag, false)) {
                numbers.addAll(features.get(number).lookups);
            }
        }
        return numbers;
    }

    void set(Glyph[] run, int script, int language, Map<Integer, Boolean> on, boolean back) {
        for (int number : wanted(script, language, on)) {
            Lookup lookup = lookups.get(number);
            int i = 0;
            while (i < run.length) {
                Integer then = null;
                if (!run[i].passed(lookup.flag)) {
                    for (Subtable subtable : lookup.subtables) {
                        then = subtable.take(run, i, lookup.flag, back);
                        if (then != null) {
                            break;
                        }
                    }
                }
                i = then == null ? i + 1 : then;
            }
        }
        for (int i = 0; i < run.length; i++) {
            if (run[i].on >= 0) {
                hang(run, i, back);
            }
        }
    }

    private static void hang(Glyph[] run, int i, boolean back) {
        Glyph on = run[run[i].on];
        run[i].up += run[i].byY + on.up;
        if (run[i].by == 3) {
            return;
        }
        run[i].right += run[i].byX + on.right;
        for (int k = 0; k < run.length; k++) {
            if (!back && k >= run[i].on && k < i) {
                run[i].right -= run[k].width;
                run[i].up -= run[k].higher;
            }
            if (back && k > run[i].on && k <= i) {
                run[i].right += run[k].width;
                run[i].up += run[k].higher;
            }
        }
    }
}
