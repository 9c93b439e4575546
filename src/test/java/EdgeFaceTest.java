import java.util.HashSet;
import java.util.Set;

/**
 * What each call of the public face may throw: for arguments round all limits and far beyond them,
 * in objects that are empty, loaded, set and full, just what the document lists and nothing else.
 */
public final class EdgeFaceTest {
    private static final Class<IllegalArgumentException> ARGUMENT = IllegalArgumentException.class;
    private static final Class<IndexOutOfBoundsException> INDEX = IndexOutOfBoundsException.class;
    private static final Class<IllegalStateException> STATE = IllegalStateException.class;
    private static final int MIN = Integer.MIN_VALUE;
    private static final int MAX = Integer.MAX_VALUE;
    private static final int[] NUMBERS = {MIN, MIN + 1, -65536, -32768, -256, -2, -1, 0, 1, 2, 3, 4,
        5, 6, 7, 15, 16, 17, 127, 128, 255, 256, 257, 799, 800, 801, 8187, 8188, 8189, 8191, 8192,
        32767, 32768, 65534, 65535, 65536, 65537, 1 << 24, MAX - 1, MAX};

    public static void main(String[] args) {
        Sentences all = new Sentences("EdgeFaceTest");
        all.test("public int feed(int word);", EdgeFaceTest::feed);
        all.test("public int put(int i, int b) throws IndexOutOfBoundsException, "
                + "IllegalArgumentException;", EdgeFaceTest::put);
        all.test("public int cut(int many) throws IllegalArgumentException;", EdgeFaceTest::cut);
        all.test("public int load();", EdgeFaceTest::load);
        all.test("public void kind(int first, int last, int kind, int marks) throws "
                + "IllegalArgumentException, IllegalStateException;", EdgeFaceTest::kind);
        all.test("public int forget();", EdgeFaceTest::forget);
        all.test("public void choose(int script, int language);", EdgeFaceTest::choose);
        all.test("public void feature(int tag, boolean on) throws IllegalStateException;",
                EdgeFaceTest::feature);
        all.test("public int add(int glyph, int width, int part) throws IllegalArgumentException, "
                + "IllegalStateException;", EdgeFaceTest::add);
        all.test("public int clear();", EdgeFaceTest::clear);
        all.test("public int set(boolean back) throws IllegalStateException;", EdgeFaceTest::set);
        all.test("public int place(int i, int what) throws IndexOutOfBoundsException;",
                EdgeFaceTest::place);
        all.end();
    }

    /** An object, and what is known of it. */
    private static final class Known {
        final GlyphPositions x = new GlyphPositions();
        final Set<Integer> tags = new HashSet<>();
        int size;
        int ranges;
        int told;
        int run;
        boolean loaded;
    }

    private static Known[] states() {
        return new Known[] {new Known(), fed(), loaded(), setAndCleared(), full()};
    }

    private static Known fed() {
        Known known = new Known();
        known.x.feed(-1);
        known.x.feed(-1);
        known.x.cut(7);
        known.size = 7;
        return known;
    }

    private static Known loaded() {
        Known known = new Known();
        byte[] font = Fonts.requiring(Fonts.wider(1, 7));
        Fonts.feed(known.x, font);
        known.x.load();
        known.size = font.length;
        known.loaded = true;
        return known;
    }

    private static Known setAndCleared() {
        Known known = loaded();
        Fonts.glyphs(known.x, 7, 8, 7).set(true);
        known.x.clear();
        known.run = 3;
        return known;
    }

    private static Known full() {
        Known known = loaded();
        while (known.size <= 8188) {
            known.size = known.x.feed(known.size);
        }
        for (int k = 0; k < 256; k++) {
            known.x.kind(k, k, 3, k);
        }
        for (int k = 0; k < 20; k++) {
            known.x.feature(k - 10, true);
            known.tags.add(k - 10);
        }
        for (int k = 0; k < 800; k++) {
            known.x.add(7, 1, 0);
        }
        known.x.set(false);
        known.ranges = 256;
        known.told = 800;
        known.run = 800;
        return known;
    }

    private static boolean in(int number, int first, int last) {
        return first <= number && number <= last;
    }

    private static void feed(Check check) {
        for (Known known : states()) {
            for (int word : NUMBERS) {
                boolean room = known.size <= 8188;
                known.size += room ? 4 : 0;
                check.due("feed(" + word + ")", known.x.feed(word),
                        room ? known.size : GlyphPositions.NONE);
            }
        }
    }

    private static void put(Check check) {
        for (Known known : states()) {
            for (int i : NUMBERS) {
                for (int b : NUMBERS) {
                    String call = "put(" + i + ", " + b + ") of " + known.size;
                    if (!in(i, 0, known.size - 1)) {
                        check.refused(call, INDEX, () -> known.x.put(i, b));
                    } else if (!in(b, 0, 255)) {
                        check.refused(call, ARGUMENT, () -> known.x.put(i, b));
                    } else {
                        known.x.put(i, b);
                        check.due(call, known.x.put(i, 0), b);
                    }
                }
            }
        }
    }

    private static void cut(Check check) {
        for (int many : NUMBERS) {
            for (Known known : states()) {
                String call = "cut(" + many + ") of " + known.size;
                if (many < 0) {
                    check.refused(call, ARGUMENT, () -> known.x.cut(many));
                } else {
                    check.due(call, known.x.cut(many), Math.max(0, known.size - many));
                }
            }
        }
    }

    private static void load(Check check) {
        for (Known known : states()) {
            int answer = known.x.load();
            check.due("load()", answer, known.loaded ? 1 : GlyphPositions.HEAD);
            check.due("load() again", known.x.load(), answer);
            for (int i = known.size - 1; i >= 0; i--) {
                known.x.put(i, known.size * 31 + i * 7 & 255);
                int told = known.x.load();
                check.due("load() answered " + told, in(told, GlyphPositions.LOOKUPS, 64) ? 1 : 0,
                        1);
            }
        }
    }

    private static void kind(Check check) {
        int[] glyphs = {MIN, -1, 0, 1, 65534, 65535, 65536, MAX};
        int[] kinds = {MIN, -1, 0, 3, 4, MAX};
        int[] marks = {MIN, -1, 0, 255, 256, MAX};
        for (Known known : states()) {
            for (int first : glyphs) {
                for (int last : glyphs) {
                    for (int kind : kinds) {
                        for (int mark : marks) {
                            oneKind(check, known, first, last, kind, mark);
                        }
                    }
                }
            }
            check.due("forget()", known.x.forget(), known.ranges);
        }
    }

    private static void oneKind(Check check, Known known, int first, int last, int kind,
            int marks) {
        String call = "kind(" + first + ", " + last + ", " + kind + ", " + marks + ")";
        boolean right = in(first, 0, 65535) && in(last, first, 65535) && in(kind, 0, 3)
                && in(marks, 0, 255);
        if (!right || known.ranges == 256) {
            check.refusedTelling(call, right ? STATE : ARGUMENT,
                    () -> known.x.kind(first, last, kind, marks));
        } else {
            known.x.kind(first, last, kind, marks);
            known.ranges++;
        }
    }

    private static void forget(Check check) {
        for (Known known : states()) {
            check.due("forget()", known.x.forget(), known.ranges);
            check.due("forget() again", known.x.forget(), 0);
        }
    }

    private static void choose(Check check) {
        for (Known known : states()) {
            for (int script : NUMBERS) {
                for (int language : NUMBERS) {
                    known.x.choose(script, language);
                }
            }
            check.due("nothing else happens", known.x.clear(), known.told);
        }
    }

    private static void feature(Check check) {
        for (Known known : states()) {
            for (int round = 0; round < 2; round++) {
                for (int tag : NUMBERS) {
                    boolean on = (tag + round) % 2 == 0;
                    if (known.tags.size() == 20 && !known.tags.contains(tag)) {
                        check.refusedTelling("feature(" + tag + ")", STATE,
                                () -> known.x.feature(tag, on));
                    } else {
                        known.x.feature(tag, on);
                        known.tags.add(tag);
                    }
                }
            }
        }
    }

    private static void add(Check check) {
        for (Known known : states()) {
            for (int glyph : NUMBERS) {
                for (int width : new int[] {MIN, -1, 0, 65535, 65536, MAX}) {
                    for (int part : new int[] {MIN, -1, 0, 16, 17, MAX}) {
                        oneGlyph(check, known, glyph, width, part);
                    }
                }
            }
            check.due("clear()", known.x.clear(), known.told);
        }
    }

    private static void oneGlyph(Check check, Known known, int glyph, int width, int part) {
        String call = "add(" + glyph + ", " + width + ", " + part + ")";
        boolean right = in(glyph, 0, 65535) && in(width, 0, 65535) && in(part, 0, 16);
        if (!right || known.told == 800) {
            check.refused(call, right ? STATE : ARGUMENT, () -> known.x.add(glyph, width, part));
        } else {
            known.told++;
            check.due(call, known.x.add(glyph, width, part), known.told);
        }
    }

    private static void clear(Check check) {
        for (Known known : states()) {
            check.due("clear()", known.x.clear(), known.told);
            check.due("clear() again", known.x.clear(), 0);
        }
    }

    private static void set(Check check) {
        for (boolean back : new boolean[] {false, true}) {
            for (Known known : states()) {
                if (known.loaded) {
                    check.due("set(" + back + ")", known.x.set(back), known.told);
                } else {
                    check.refused("set(" + back + ")", STATE, () -> known.x.set(back));
                }
            }
        }
    }

    private static void place(Check check) {
        for (Known known : states()) {
            for (int i : NUMBERS) {
                for (int what : NUMBERS) {
                    String call = "place(" + i + ", " + what + ") of " + known.run;
                    if (!in(i, 0, known.run - 1) || !in(what, 0, 5)) {
                        check.refused(call, INDEX, () -> known.x.place(i, what));
                    } else if (what == 5) {
                        check.due(call, known.x.place(i, what), GlyphPositions.NONE);
                    } else if (what != 0 && what != 4) {
                        check.due(call, known.x.place(i, what), 0);
                    }
                }
            }
        }
    }
}
