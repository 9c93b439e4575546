import java.util.Arrays;
import java.util.HashMap;
import java.util.Map;
import java.util.Random;

/**
 * Fonts by chance, whole and with bytes changed or cut off, and runs by chance: the answers must
 * be those of the Model, and nothing may be thrown.
 */
public final class FuzzTest {
    private static final int FONTS = 4000;
    private static final Check CHECK = new Check("FuzzTest");

    private final Random random;

    private FuzzTest(long seed) {
        random = new Random(seed);
    }

    public static void main(String[] args) {
        int asSaid = 0;
        for (int seed = 1; seed <= FONTS; seed++) {
            FuzzTest test = new FuzzTest(seed);
            try {
                asSaid += test.oneFont(seed);
            } catch (RuntimeException thrown) {
                CHECK.tell("seed " + seed + " threw " + thrown);
            }
            if (!CHECK.allRight()) {
                break;
            }
        }
        CHECK.due("enough fonts are as said (" + asSaid + ")", asSaid > FONTS ? 1 : 0, 1);
        CHECK.end();
    }

    private int up(int bound) {
        return random.nextInt(bound);
    }

    /** How many times a font was loaded. */
    private int oneFont(int seed) {
        byte[] font = font().bytes();
        if (font.length > 8192) {
            return 0;
        }
        int loaded = 0;
        GlyphPositions x = Fonts.fed(font);
        Model kept = null;
        for (int round = 0; round < 30; round++) {
            Model model = new Model(font);
            CHECK.due("seed " + seed + " load " + round, x.load(), model.answer);
            if (round == 0 && model.answer < 0) {
                CHECK.tell("seed " + seed + ": a whole font is not as said: " + model.answer);
            }
            if (model.answer >= 0) {
                kept = model;
                loaded++;
            }
            if (round % 5 == 0 || model.answer >= 0) {
                oneRun(seed, x, kept);
            }
            font = round % 3 == 2 ? font().bytes() : changed(x, font);
            if (round % 3 == 2) {
                font = font.length > 8192 ? Arrays.copyOf(font, 8192) : font;
                Fonts.feed(x, font);
            }
        }
        return loaded;
    }

    private byte[] changed(GlyphPositions x, byte[] font) {
        byte[] other = font.clone();
        if (up(8) == 0) {
            other = Arrays.copyOf(other, up(font.length + 1));
            CHECK.due("cut", x.cut(other.length), font.length - other.length);
        }
        int many = 1 + up(2);
        for (int k = 0; k < many && other.length > 0; k++) {
            int at = up(other.length);
            int b = switch (up(4)) {
                case 0 -> 0;
                case 1 -> up(256);
                case 2 -> other[at] + 1 & 255;
                default -> other[at] - 1 & 255;
            };
            CHECK.due("put", x.put(at, b), other[at] & 255);
            other[at] = (byte) b;
        }
        return other;
    }

    private void oneRun(int seed, GlyphPositions x, Model model) {
        if (model == null) {
            return;
        }
        x.clear();
        x.forget();
        Map<Integer, Boolean> on = new HashMap<>();
        for (int tag = 1; tag <= 4; tag++) {
            on.put(tag, up(3) != 0);
            x.feature(tag, on.get(tag));
        }
        int[] tags = {0, 1, 2, Fonts.DFLT};
        int script = tags[up(4)];
        int language = tags[up(4)];
        x.choose(script, language);
        int[] kinds = new int[40];
        int[] marks = new int[40];
        for (int k = up(12); k > 0; k--) {
            int first = up(24);
            int last = first + up(8);
            int kind = up(4);
            int mark = up(3);
            x.kind(first, last, kind, mark);
            Arrays.fill(kinds, first, last + 1, kind);
            Arrays.fill(marks, first, last + 1, mark);
        }
        Model.Glyph[] run = new Model.Glyph[up(24)];
        for (int i = 0; i < run.length; i++) {
            run[i] = new Model.Glyph();
            run[i].glyph = up(24);
            run[i].width = up(1000);
            run[i].part = up(6);
            run[i].kind = kinds[run[i].glyph];
            run[i].marks = marks[run[i].glyph];
            x.add(run[i].glyph, run[i].width, run[i].part);
        }
        boolean back = up(2) == 0;
        CHECK.due("seed " + seed + " set", x.set(back), run.length);
        model.set(run, script, language, on, back);
        int before = 0;
        for (int i = 0; i < run.length; i++) {
            CHECK.placed("seed " + seed, x, i, run[i].width, run[i].higher, run[i].right,
                    run[i].up, before + run[i].right, run[i].on);
            before += run[i].width;
        }
    }

    private Part font() {
        Part[] lookups = new Part[1 + up(7)];
        for (int k = 0; k < lookups.length; k++) {
            lookups[k] = lookup();
        }
        Object[] features = new Object[8];
        for (int k = 0; k < 4; k++) {
            features[2 * k] = k + 1;
            features[2 * k + 1] = Fonts.feature(numbers(up(4), lookups.length));
        }
        Part scripts = up(5) == 0
                ? Fonts.tagged(new Part(), 1, script(), 2, script())
                : Fonts.tagged(new Part(), 1, script(), Fonts.DFLT, script());
        return Fonts.head(scripts, Fonts.tagged(new Part(), features), Fonts.lookups(lookups));
    }

    private int[] numbers(int many, int below) {
        int[] numbers = new int[many];
        for (int k = 0; k < many; k++) {
            numbers[k] = up(below);
        }
        return numbers;
    }

    private Part script() {
        return Fonts.script(up(6) == 0 ? null : language(), 1, language(), 2, language());
    }

    private Part language() {
        return Fonts.language(up(3) == 0 ? 65535 : up(4), numbers(up(5), 4));
    }

    private Part lookup() {
        int type = 1 + up(6);
        int flag = up(2) == 0 ? 0 : up(16) + 256 * up(3);
        Part[] subtables = new Part[1 + up(3)];
        for (int k = 0; k < subtables.length; k++) {
            subtables[k] = subtable(type);
        }
        return up(4) == 0 ? Fonts.far(type, flag, subtables) : Fonts.lookup(type, flag, subtables);
    }

    private Part subtable(int type) {
        return switch (type) {
            case 1 -> up(2) == 0 ? single() : singles();
            case 2 -> up(2) == 0 ? pairs() : pairClasses();
            case 3 -> cursive();
            default -> marksOn(type);
        };
    }

    private int covered;

    /** Says in covered how many there are. */
    private Part coverage() {
        if (up(2) == 0) {
            int[] glyphs = new int[24];
            int many = 0;
            for (int glyph = 0; glyph < 24; glyph++) {
                if (up(2) == 0) {
                    glyphs[many++] = glyph;
                }
            }
            covered = many;
            return Fonts.covers(Arrays.copyOf(glyphs, many));
        }
        int[] ranges = new int[24];
        int many = 0;
        covered = 0;
        for (int glyph = up(4); glyph < 24 && many < 24; glyph += 1 + up(5)) {
            ranges[many] = glyph;
            glyph += up(5);
            ranges[many + 1] = glyph;
            ranges[many + 2] = covered;
            covered += ranges[many + 1] - ranges[many] + 1;
            many += 3;
        }
        return Fonts.coversRanges(Arrays.copyOf(ranges, many));
    }

    private Part classes() {
        if (up(2) == 0) {
            return Fonts.classes(up(12), numbers(up(12), 4));
        }
        int[] ranges = new int[15];
        int many = 0;
        for (int glyph = up(4); glyph < 24 && many < 15; glyph += 1 + up(5)) {
            ranges[many] = glyph;
            glyph += up(5);
            ranges[many + 1] = glyph;
            ranges[many + 2] = up(4);
            many += 3;
        }
        return Fonts.classRanges(Arrays.copyOf(ranges, many));
    }

    private int bits() {
        return switch (up(4)) {
            case 0 -> 0;
            case 1 -> 4;
            case 2 -> up(16);
            default -> up(256);
        };
    }

    private int[] values(int bits, int many) {
        int[] values = numbers(many * Integer.bitCount(bits), 400);
        for (int k = 0; k < values.length; k++) {
            values[k] -= 200;
        }
        return values;
    }

    private Part single() {
        int bits = bits();
        return Fonts.single(coverage(), bits, values(bits, 1));
    }

    private Part singles() {
        int bits = bits();
        Part coverage = coverage();
        return Fonts.singles(coverage, bits, covered, values(bits, covered));
    }

    private Part pairs() {
        int one = bits();
        int two = bits() & 15;
        Part coverage = coverage();
        Part[] rows = new Part[covered];
        for (int k = 0; k < rows.length; k++) {
            int many = up(6);
            rows[k] = Part.of(many);
            for (int j = 0; j < many; j++) {
                rows[k].u16(4 * j + up(4)).u16(values(one, 1)).u16(values(two, 1));
            }
        }
        return Fonts.pairs(coverage, one, two, rows);
    }

    private Part pairClasses() {
        int one = bits();
        int two = bits();
        int n = 1 + up(4);
        int m = 1 + up(4);
        Part pairs = Fonts.pairClasses(coverage(), one, two, classes(), classes()).u16(n, m);
        for (int k = 0; k < n * m; k++) {
            pairs.u16(values(one, 1)).u16(values(two, 1));
        }
        return pairs;
    }

    private Part anchor() {
        int form = 1 + up(3);
        return Part.of(form, up(2000) - 1000, up(2000) - 1000);
    }

    private Part[] anchors(int many) {
        Part[] anchors = new Part[many];
        for (int k = 0; k < many; k++) {
            anchors[k] = up(5) == 0 ? null : anchor();
        }
        return anchors;
    }

    private Part cursive() {
        Part coverage = coverage();
        return Fonts.cursive(coverage, anchors(2 * covered));
    }

    private Part marksOn(int type) {
        Part marks = coverage();
        int manyMarks = covered;
        Part bases = coverage();
        int manyBases = covered;
        int c = 1 + up(3);
        Part marksPart = Part.of(manyMarks);
        for (int k = 0; k < manyMarks; k++) {
            marksPart.u16(up(c)).to(anchor());
        }
        Part basesPart = Part.of(manyBases);
        for (int k = 0; k < manyBases; k++) {
            if (type == 5) {
                int parts = 1 + up(4);
                basesPart.to(Part.of(parts).to(anchors(parts * c)));
            } else {
                basesPart.to(anchors(c));
            }
        }
        return Fonts.marksOn(marks, bases, c, marksPart, basesPart);
    }
}
