/** The boundary cases of KINDS, of when a lookup PASSES OVER a glyph, and of promises 6 to 11. */
public final class EdgeToldTest {
    private static final Class<IllegalArgumentException> ARGUMENT = IllegalArgumentException.class;
    private static final Class<IllegalStateException> STATE = IllegalStateException.class;
    private static final int NONE = GlyphPositions.NONE;
    private static final int MIN = Integer.MIN_VALUE;
    private static final int MAX = Integer.MAX_VALUE;

    public static void main(String[] args) {
        Sentences all = new Sentences("EdgeToldTest");
        all.test("Glyphs have a KIND 0 none, 1 base, 2 ligature, 3 mark,", EdgeToldTest::kinds);
        all.test("and a CLASS OF MARKS 0 .. 255, told by ranges", EdgeToldTest::classesOfMarks);
        all.test("(the one told last counts;", EdgeToldTest::toldLastCounts);
        all.test("0, 0 if there is none).", EdgeToldTest::withoutRange);
        all.test("A lookup PASSES OVER a glyph if its FLAG has bit 1 and it is a base, bit 2, a "
                + "ligature, bit 3, a mark,", EdgeToldTest::passesOverKinds);
        all.test("or if FLAG / 256 is not 0, it is a mark, and of another CLASS OF MARKS.",
                EdgeToldTest::passesOverClasses);
        all.test("Glyphs of a range have a KIND and a CLASS OF MARKS.", EdgeToldTest::range);
        all.test("IllegalArgument: first or last is not 0 .. 65535, first is above last, kind not "
                + "0 .. 3, or marks not 0 .. 255.", EdgeToldTest::noRange);
        all.test("IllegalState: there are 256 ranges (each one told counts, also the same again).",
                EdgeToldTest::fullRanges);
        all.test("All ranges of kinds are gone; how many there were.", EdgeToldTest::forget);
        all.test("The tags of a script and a language.", EdgeToldTest::tags);
        all.test("Features of a tag are on, or off (as all are at first;",
                EdgeToldTest::offAtFirst);
        all.test("one that is told off is told, too).", EdgeToldTest::toldOffIsTold);
        all.test("IllegalState: 20 tags were told already (also as off; none is given back), and "
                + "this is none of them.", EdgeToldTest::twentyTags);
        all.test("A glyph more, with its width,", EdgeToldTest::glyphAndWidth);
        all.test("and the part of a ligature that it belongs to (0 for none): how many are told.",
                EdgeToldTest::howManyAreTold);
        all.test("IllegalArgument: glyph is not 0 .. 65535, width not 0 .. 65535, or part not "
                + "0 .. 16.", EdgeToldTest::noGlyph);
        all.test("IllegalState: there are 800.", EdgeToldTest::eightHundred);
        all.test("No glyphs are told any more; how many were.", EdgeToldTest::clear);
        all.end();
    }

    /** All glyphs are made wider by 1, but for those that the lookup passes over. */
    private static GlyphPositions widening(int flag) {
        Part all = Fonts.single(Fonts.coversRanges(0, 65535, 0), 4, 1);
        return Fonts.loaded(Fonts.lookup(1, flag, all));
    }

    private static boolean passed(GlyphPositions x, int glyph) {
        x.clear();
        Fonts.glyphs(x, glyph).set(false);
        return x.place(0, 0) == 100;
    }

    private static void duePassed(Check check, String name, GlyphPositions x, int glyph,
            boolean due) {
        check.due(name + ": glyph " + glyph + " is passed over", passed(x, glyph) ? 1 : 0,
                due ? 1 : 0);
    }

    private static void kinds(Check check) {
        int[] flags = {2, 4, 8};
        for (int kind = 0; kind <= 3; kind++) {
            for (int k = 0; k < 3; k++) {
                GlyphPositions x = widening(flags[k]);
                x.kind(7, 7, kind, 0);
                duePassed(check, "kind " + kind + ", FLAG " + flags[k], x, 7, kind == k + 1);
            }
        }
    }

    private static void classesOfMarks(Check check) {
        int[] classes = {0, 1, 2, 127, 128, 254, 255};
        for (int only : new int[] {1, 2, 127, 128, 255}) {
            GlyphPositions x = widening(256 * only);
            for (int marks : classes) {
                x.kind(marks, marks, 3, marks);
            }
            for (int marks : classes) {
                duePassed(check, "only " + only, x, marks, marks != only);
            }
        }
    }

    private static void toldLastCounts(Check check) {
        GlyphPositions x = widening(0x0308);
        x.kind(10, 20, 3, 3);
        duePassed(check, "a mark", x, 15, true);
        x.kind(15, 15, 1, 3);
        duePassed(check, "a base", x, 15, false);
        duePassed(check, "its neighbour", x, 14, true);
        duePassed(check, "its neighbour", x, 16, true);
        x.kind(0, 65535, 0, 0);
        duePassed(check, "nothing of all", x, 15, false);
        duePassed(check, "nothing of all", x, 20, false);
        x.kind(20, 20, 3, 0);
        duePassed(check, "a mark again", x, 20, true);
        // Kind and class both come from the one told last.
        GlyphPositions y = widening(0x0300);
        y.kind(5, 5, 3, 3);
        duePassed(check, "of the class", y, 5, false);
        y.kind(5, 5, 3, 0);
        duePassed(check, "of another class", y, 5, true);
        y.kind(5, 5, 0, 0);
        duePassed(check, "no mark", y, 5, false);
    }

    private static void withoutRange(Check check) {
        for (int flag : new int[] {2, 4, 8, 14, 0x0100, 0xff0e, 0xffef}) {
            GlyphPositions x = widening(flag);
            for (int glyph : new int[] {0, 4, 6, 65535}) {
                duePassed(check, "FLAG " + flag, x, glyph, false);
                x.kind(5, 5, 3, 1);
                duePassed(check, "FLAG " + flag, x, glyph, false);
            }
        }
    }

    /** The glyph's number is its kind; its class of marks is 1. */
    private static GlyphPositions oneOfEachKind(int flag) {
        GlyphPositions x = widening(flag);
        for (int kind = 0; kind <= 3; kind++) {
            x.kind(kind, kind, kind, 1);
        }
        return x;
    }

    private static void passesOverKinds(Check check) {
        for (int flag = 0; flag < 256; flag++) {
            if ((flag & 16) != 0) {
                continue;
            }
            GlyphPositions x = oneOfEachKind(flag);
            duePassed(check, "FLAG " + flag, x, 0, false);
            for (int kind = 1; kind <= 3; kind++) {
                duePassed(check, "FLAG " + flag, x, kind, (flag >> kind & 1) != 0);
            }
        }
    }

    private static void passesOverClasses(Check check) {
        for (int flag : new int[] {0x0000, 0x0001, 0x00ef, 0x0100, 0x01e1, 0x0200, 0x8000, 0xff00,
            0x0102, 0x0108}) {
            GlyphPositions x = oneOfEachKind(flag);
            int only = flag >> 8;
            boolean byKind = (flag & 8) != 0;
            duePassed(check, "FLAG " + flag, x, 0, false);
            duePassed(check, "FLAG " + flag, x, 1, (flag & 2) != 0);
            duePassed(check, "FLAG " + flag, x, 2, (flag & 4) != 0);
            duePassed(check, "FLAG " + flag, x, 3, byKind || only != 0 && only != 1);
        }
    }

    private static void range(Check check) {
        int[][] ranges = {{0, 0}, {65535, 65535}, {0, 65535}, {7, 9}, {32767, 32768}};
        for (int[] r : ranges) {
            GlyphPositions x = widening(8);
            x.kind(r[0], r[1], 3, 255);
            duePassed(check, "first", x, r[0], true);
            duePassed(check, "last", x, r[1], true);
            if (r[0] > 0) {
                duePassed(check, "one before", x, r[0] - 1, false);
            }
            if (r[1] < 65535) {
                duePassed(check, "one behind", x, r[1] + 1, false);
            }
        }
    }

    private static void noRange(Check check) {
        GlyphPositions x = new GlyphPositions();
        int[][] wrong = {{-1, 5, 0, 0}, {MIN, 5, 0, 0}, {65536, 65536, 0, 0}, {MAX, MAX, 0, 0},
            {0, 65536, 0, 0}, {0, MAX, 0, 0}, {-2, -1, 0, 0}, {0, -1, 0, 0}, {0, MIN, 0, 0},
            {1, 0, 0, 0}, {65535, 65534, 0, 0}, {65535, 0, 0, 0}, {0, 0, -1, 0}, {0, 0, 4, 0},
            {0, 0, MIN, 0}, {0, 0, MAX, 0}, {0, 0, 0, -1}, {0, 0, 0, 256}, {0, 0, 0, MIN},
            {0, 0, 0, MAX}, {0, 0, 3, 256}, {0, 0, 4, 255}};
        for (int[] w : wrong) {
            check.refusedTelling("kind(" + w[0] + ", " + w[1] + ", " + w[2] + ", " + w[3] + ")",
                    ARGUMENT, () -> x.kind(w[0], w[1], w[2], w[3]));
        }
        check.due("forget()", x.forget(), 0);
        int[][] right = {{0, 0, 0, 0}, {65535, 65535, 3, 255}, {0, 65535, 1, 0}, {5, 5, 2, 255}};
        for (int[] r : right) {
            x.kind(r[0], r[1], r[2], r[3]);
        }
        check.due("forget()", x.forget(), right.length);
    }

    private static void fullRanges(Check check) {
        GlyphPositions x = widening(8);
        for (int k = 0; k < 255; k++) {
            x.kind(7, 7, 0, 0);
        }
        x.kind(8, 8, 3, 0);
        duePassed(check, "range 256", x, 8, true);
        check.refusedTelling("range 257", STATE, () -> x.kind(9, 9, 3, 0));
        check.refusedTelling("the same again", STATE, () -> x.kind(8, 8, 3, 0));
        check.refusedTelling("kind 0", STATE, () -> x.kind(0, 65535, 0, 0));
        duePassed(check, "range 256 stays", x, 8, true);
        duePassed(check, "range 257 is none", x, 9, false);
        check.due("forget()", x.forget(), 256);
        x.kind(9, 9, 3, 0);
        duePassed(check, "there is room again", x, 9, true);
        check.due("forget()", x.forget(), 1);
    }

    private static void forget(Check check) {
        GlyphPositions x = widening(8);
        check.due("forget() of none", x.forget(), 0);
        x.kind(7, 8, 3, 0);
        x.kind(7, 8, 3, 0);
        duePassed(check, "told", x, 7, true);
        check.due("forget()", x.forget(), 2);
        duePassed(check, "forgotten", x, 7, false);
        check.due("forget() again", x.forget(), 0);
        x.kind(9, 9, 3, 0);
        duePassed(check, "told anew", x, 9, true);
        duePassed(check, "still forgotten", x, 8, false);
    }

    private static final int[] TAGS = {0, 1, 0x100, 0x10000, 0x1000000, MAX, MIN, -2, -1};

    /** The script or the language number k has a feature that makes glyphs wider by 2 to the k. */
    private static Part tagged(boolean scripts) {
        Object[] list = new Object[2 * TAGS.length];
        for (int k = 0; k < TAGS.length; k++) {
            list[2 * k] = TAGS[k];
            list[2 * k + 1] = scripts ? Fonts.script(Fonts.language(k)) : Fonts.language(k);
        }
        return scripts ? Fonts.tagged(new Part(), list)
                : Fonts.tagged(new Part(), Fonts.DFLT, Fonts.script(null, list));
    }

    private static GlyphPositions byTags(Part scripts) {
        Object[] list = new Object[2 * TAGS.length];
        Part[] lookups = new Part[TAGS.length];
        for (int k = 0; k < TAGS.length; k++) {
            list[2 * k] = TAGS[k];
            list[2 * k + 1] = Fonts.feature(k);
            lookups[k] = Fonts.wider(1 << k, 7);
        }
        GlyphPositions x = Fonts.fed(Fonts.head(scripts, Fonts.tagged(new Part(), list),
                Fonts.lookups(lookups)).bytes());
        if (x.load() != TAGS.length) {
            throw new IllegalStateException("the font of a test is not as said");
        }
        return Fonts.glyphs(x, 7);
    }

    private static int wider(GlyphPositions x) {
        x.set(false);
        return x.place(0, 0) - 100;
    }

    private static void tags(Check check) {
        GlyphPositions x = byTags(tagged(true));
        GlyphPositions y = byTags(tagged(false));
        for (int k = 0; k < TAGS.length; k++) {
            x.choose(TAGS[k], 5);
            check.due("script " + TAGS[k], wider(x), 1 << k);
            y.choose(5, TAGS[k]);
            check.due("language " + TAGS[k], wider(y), 1 << k);
        }
        for (int tag : new int[] {2, 0x101, -3, 0x80000001}) {
            x.choose(tag, 0);
            check.due("no script " + tag, wider(x), 0);
            y.choose(0, tag);
            check.due("no language " + tag, wider(y), 0);
        }
        x.choose(0, 0);
        check.due("script 0 again", wider(x), 1);
    }

    /** The standard language has all features, and requires none. */
    private static GlyphPositions byFeatures() {
        int[] all = new int[TAGS.length];
        for (int k = 0; k < all.length; k++) {
            all[k] = k;
        }
        return byTags(Fonts.tagged(new Part(), Fonts.DFLT,
                Fonts.script(Fonts.language(65535, all))));
    }

    private static void offAtFirst(Check check) {
        GlyphPositions x = byFeatures();
        check.due("all are off", wider(x), 0);
        int on = 0;
        for (int k = 0; k < TAGS.length; k++) {
            x.feature(TAGS[k], true);
            on += 1 << k;
            check.due("on: " + TAGS[k], wider(x), on);
        }
        for (int k = 0; k < TAGS.length; k++) {
            x.feature(TAGS[k], false);
            on -= 1 << k;
            check.due("off: " + TAGS[k], wider(x), on);
        }
        x.feature(0, true);
        x.feature(0, true);
        check.due("on twice", wider(x), 1);
        x.feature(0, false);
        check.due("off once", wider(x), 0);
    }

    private static void toldOffIsTold(Check check) {
        GlyphPositions x = byFeatures();
        for (int k = 0; k < 20; k++) {
            x.feature(k, false);
        }
        check.refusedTelling("a tag more", STATE, () -> x.feature(20, false));
        check.refusedTelling("a tag more", STATE, () -> x.feature(20, true));
        x.feature(1, true);
        check.due("one of them is on", wider(x), 2);
    }

    private static void twentyTags(Check check) {
        GlyphPositions x = byFeatures();
        for (int k = 0; k < 19; k++) {
            x.feature(1000 + k, k % 2 == 0);
        }
        x.feature(1000, true);
        x.feature(1018, false);
        x.feature(-1, true);
        check.due("tag 20", wider(x), 256);
        for (int tag : new int[] {0, 1, 999, 1019, -2, MIN, MAX}) {
            check.refusedTelling("tag " + tag, STATE, () -> x.feature(tag, true));
            check.refusedTelling("tag " + tag, STATE, () -> x.feature(tag, false));
        }
        x.feature(-1, false);
        check.due("tag 20 off", wider(x), 0);
        check.refusedTelling("none is given back", STATE, () -> x.feature(0, true));
        x.feature(-1, true);
        check.due("tag 20 on again", wider(x), 256);
        x.clear();
        x.forget();
        x.choose(0, 0);
        x.load();
        check.refusedTelling("by no other call", STATE, () -> x.feature(0, true));
    }

    private static void glyphAndWidth(Check check) {
        GlyphPositions x = Fonts.loaded(Fonts.wider(1, 0, 65535));
        int[][] glyphs = {{0, 0}, {65535, 65535}, {1, 65535}, {32768, 32768}, {0, 65535}};
        for (int[] g : glyphs) {
            x.add(g[0], g[1], 0);
        }
        check.due("set", x.set(false), glyphs.length);
        int[] due = {1, 65536, 65535, 32768, 65536};
        for (int i = 0; i < due.length; i++) {
            check.due("width of " + i, x.place(i, 0), due[i]);
        }
    }

    /** A ligature of 16 parts, whose part k has its ANCHOR at k. */
    private static void howManyAreTold(Check check) {
        Part[] anchors = new Part[16];
        for (int k = 0; k < 16; k++) {
            anchors[k] = Fonts.anchor(k + 1, 0);
        }
        Part subtable = Fonts.marksOn(Fonts.covers(60), Fonts.covers(80), 1,
                Fonts.marks(0, Fonts.anchor(0, 0)), Part.of(1).to(Part.of(16).to(anchors)));
        GlyphPositions x = Fonts.loaded(Fonts.lookup(5, 0, subtable));
        x.kind(60, 60, 3, 0);
        check.due("add", x.add(80, 0, 0), 1);
        for (int part = 0; part <= 16; part++) {
            check.due("add", x.add(60, 0, part), 2 + part);
        }
        x.set(false);
        for (int part = 0; part <= 16; part++) {
            check.due("part " + part, x.place(1 + part, 2), part == 0 ? 16 : part);
        }
        check.due("the ligature", x.place(0, 5), NONE);
        check.due("add", x.add(0, 0, 0), 19);
    }

    private static void noGlyph(Check check) {
        GlyphPositions x = new GlyphPositions();
        int[][] wrong = {{-1, 0, 0}, {65536, 0, 0}, {MIN, 0, 0}, {MAX, 0, 0}, {0, -1, 0},
            {0, 65536, 0}, {0, MIN, 0}, {0, MAX, 0}, {0, 0, -1}, {0, 0, 17}, {0, 0, MIN},
            {0, 0, MAX}, {-1, -1, -1}};
        for (int[] w : wrong) {
            check.refused("add(" + w[0] + ", " + w[1] + ", " + w[2] + ")", ARGUMENT,
                    () -> x.add(w[0], w[1], w[2]));
        }
        check.due("add(0, 0, 0)", x.add(0, 0, 0), 1);
        check.due("add(65535, 65535, 16)", x.add(65535, 65535, 16), 2);
        check.due("clear()", x.clear(), 2);
    }

    private static void eightHundred(Check check) {
        GlyphPositions x = Fonts.loaded(Fonts.wider(1, 7));
        for (int k = 1; k <= 800; k++) {
            check.due("add", x.add(7, k, 0), k);
        }
        check.refused("glyph 801", STATE, () -> x.add(7, 0, 0));
        check.refused("glyph 801 again", STATE, () -> x.add(65535, 65535, 16));
        check.due("set", x.set(false), 800);
        check.due("the last one", x.place(799, 0), 801);
        check.refused("still 800", STATE, () -> x.add(7, 0, 0));
        check.due("clear()", x.clear(), 800);
        check.due("there is room again", x.add(7, 0, 0), 1);
    }

    private static void clear(Check check) {
        GlyphPositions x = Fonts.loaded(Fonts.wider(1, 7));
        check.due("clear() of none", x.clear(), 0);
        Fonts.glyphs(x, 7, 8, 9);
        check.due("clear()", x.clear(), 3);
        check.due("clear() again", x.clear(), 0);
        check.due("set of none", x.set(false), 0);
        check.refused("place(0, 0)", IndexOutOfBoundsException.class, () -> x.place(0, 0));
        Fonts.glyphs(x, 8);
        check.due("set", x.set(false), 1);
        check.due("width", x.place(0, 0), 100);
        check.due("clear()", x.clear(), 1);
        check.due("the run set last stays", x.place(0, 0), 100);
    }
}
