/** Promises 6 to 11: kinds, tags, features and glyphs that are told. */
public final class ToldTest {
    private static final Class<IllegalArgumentException> ARGUMENT = IllegalArgumentException.class;
    private static final Class<IllegalStateException> STATE = IllegalStateException.class;

    public static void main(String[] args) {
        Check check = new Check("ToldTest");
        kindRefuses(check);
        kindAndForget(check);
        rangeToldLastCounts(check);
        choose(check);
        feature(check);
        addAndClear(check);
        addRefuses(check);
        check.end();
    }

    private static void kindRefuses(Check check) {
        GlyphPositions x = new GlyphPositions();
        int[][] wrong = {{-1, 5, 0, 0}, {0, 65536, 0, 0}, {65536, 65536, 0, 0}, {0, -1, 0, 0},
            {6, 5, 0, 0}, {0, 0, -1, 0}, {0, 0, 4, 0}, {0, 0, 0, -1}, {0, 0, 0, 256}};
        for (int[] w : wrong) {
            check.refusedTelling("kind", ARGUMENT, () -> x.kind(w[0], w[1], w[2], w[3]));
        }
        check.due("no range of those was told", x.forget(), 0);
        for (int i = 0; i < 256; i++) {
            x.kind(0, 65535, 3, 255);
        }
        check.refusedTelling("range 257", STATE, () -> x.kind(0, 65535, 3, 255));
        check.refusedTelling("the first one wins", ARGUMENT, () -> x.kind(1, 0, 3, 255));
        check.due("forget", x.forget(), 256);
        check.due("forget again", x.forget(), 0);
        x.kind(5, 5, 0, 0);
        check.due("one range", x.forget(), 1);
    }

    /** Every glyph 1 .. 9 gets wider by 10, unless the lookup passes over it. */
    private static GlyphPositions widening(int flag) {
        Part wider = Fonts.single(Fonts.coversRanges(1, 9, 0), 4, 10);
        return Fonts.loaded(Fonts.lookup(1, flag, wider));
    }

    private static void widths(Check check, String run, GlyphPositions x, int... due) {
        check.due(run + ": set", x.set(false), due.length);
        for (int i = 0; i < due.length; i++) {
            check.due(run + ": width of " + i, x.place(i, 0), due[i]);
        }
    }

    private static void kindAndForget(Check check) {
        int[] flags = {0, 1, 2, 4, 8, 14, 0x0200, 0x0300, 0x0208, 0xe1};
        int[][] dues = {{110, 110, 110, 110, 110}, {110, 110, 110, 110, 110},
            {110, 100, 110, 110, 110}, {110, 110, 100, 110, 110}, {110, 110, 110, 100, 100},
            {110, 100, 100, 100, 100}, {110, 110, 110, 110, 100}, {110, 110, 110, 100, 110},
            {110, 110, 110, 100, 100}, {110, 110, 110, 110, 110}};
        for (int k = 0; k < flags.length; k++) {
            GlyphPositions x = widening(flags[k]);
            x.kind(2, 2, 1, 7);
            x.kind(3, 3, 2, 7);
            x.kind(4, 4, 3, 2);
            x.kind(5, 5, 3, 3);
            Fonts.glyphs(x, 1, 2, 3, 4, 5);
            widths(check, "flag " + flags[k], x, dues[k]);
            check.due("forget", x.forget(), 4);
            widths(check, "forgotten", x, 110, 110, 110, 110, 110);
        }
    }

    private static void rangeToldLastCounts(Check check) {
        GlyphPositions x = Fonts.glyphs(widening(8), 1, 4, 5, 6, 9);
        x.kind(1, 9, 3, 0);
        x.kind(4, 5, 1, 0);
        x.kind(5, 6, 0, 0);
        widths(check, "the one told last", x, 100, 110, 110, 110, 100);
        x.kind(4, 4, 3, 0);
        widths(check, "told again", x, 100, 100, 110, 110, 100);
    }

    private static final int A = 0x41414141;
    private static final int B = 0xc2c2c2c2;

    /** Each language requires a feature of its own, which makes glyph 1 wider by 1, 2, 4, 8. */
    private static GlyphPositions chooser(boolean dflt) {
        Part[] lookups = new Part[4];
        for (int k = 0; k < 4; k++) {
            lookups[k] = Fonts.lookup(1, 0, Fonts.single(Fonts.covers(1), 4, 1 << k));
        }
        Part features = Fonts.tagged(new Part(), A, Fonts.feature(0), A, Fonts.feature(1),
                B, Fonts.feature(2), B, Fonts.feature(3));
        Part all = Fonts.script(Fonts.language(0), A, Fonts.language(1));
        Part none = Fonts.script(null, A, Fonts.language(65535), B, Fonts.language(2));
        Part other = Fonts.script(Fonts.language(3));
        Part scripts = dflt
                ? Fonts.tagged(new Part(), A, all, Fonts.DFLT, other, B, none)
                : Fonts.tagged(new Part(), A, all, B, none);
        GlyphPositions x = Fonts.fed(Fonts.head(scripts, features, Fonts.lookups(lookups)).bytes());
        if (x.load() != 4) {
            throw new IllegalStateException("the font of a test is not as said");
        }
        return Fonts.glyphs(x, 1);
    }

    private static void choose(Check check) {
        GlyphPositions x = chooser(true);
        int[][] rows = {{A, A, 102}, {A, B, 101}, {A, 0, 101}, {B, A, 100}, {B, B, 104},
            {B, 0, 100}, {0, A, 108}, {77, 0, 108}, {Fonts.DFLT, B, 108}};
        widths(check, "nothing chosen", x, 108);
        for (int[] row : rows) {
            x.choose(row[0], row[1]);
            widths(check, "choose(" + row[0] + ", " + row[1] + ")", x, row[2]);
        }
        GlyphPositions y = chooser(false);
        widths(check, "no DFLT", y, 100);
        y.choose(A, A);
        widths(check, "no DFLT, but the one told", y, 102);
    }

    private static void feature(Check check) {
        Part[] lookups = new Part[3];
        for (int k = 0; k < 3; k++) {
            lookups[k] = Fonts.lookup(1, 0, Fonts.single(Fonts.covers(1), 4, 1 << k));
        }
        Part features = Fonts.tagged(new Part(), A, Fonts.feature(0), A, Fonts.feature(2, 0),
                B, Fonts.feature(1));
        Part scripts = Fonts.tagged(new Part(), Fonts.DFLT,
                Fonts.script(Fonts.language(65535, 2, 0, 1)));
        GlyphPositions x = Fonts.fed(Fonts.head(scripts, features, Fonts.lookups(lookups)).bytes());
        check.due("load", x.load(), 3);
        Fonts.glyphs(x, 1);
        widths(check, "all are off at first", x, 100);
        x.feature(A, true);
        widths(check, "both of a tag, a lookup once", x, 105);
        x.feature(B, true);
        widths(check, "another one", x, 107);
        x.feature(A, false);
        widths(check, "one off", x, 102);
        for (int tag = 1; tag <= 18; tag++) {
            x.feature(tag, false);
        }
        check.refusedTelling("tag 21", STATE, () -> x.feature(19, false));
        check.refusedTelling("tag 21", STATE, () -> x.feature(0, true));
        x.feature(A, true);
        x.feature(B, false);
        x.feature(18, true);
        widths(check, "told ones may change", x, 105);
    }

    private static void addAndClear(Check check) {
        GlyphPositions x = widening(0);
        check.due("add", x.add(0, 0, 0), 1);
        check.due("add", x.add(65535, 65535, 16), 2);
        check.due("add", x.add(9, 1, 1), 3);
        widths(check, "as told", x, 0, 65535, 11);
        check.due("they stay told", x.add(1, 2, 0), 4);
        widths(check, "one more", x, 0, 65535, 11, 12);
        check.due("clear", x.clear(), 4);
        check.due("clear again", x.clear(), 0);
        check.due("the run set last stays", x.place(3, 0), 12);
        check.due("set of no glyphs", x.set(false), 0);
        check.refused("no glyph", IndexOutOfBoundsException.class, () -> x.place(0, 0));
        check.due("add", x.add(5, 5, 5), 1);
    }

    private static void addRefuses(Check check) {
        GlyphPositions x = widening(0);
        int[][] wrong = {{-1, 0, 0}, {65536, 0, 0}, {0, -1, 0}, {0, 65536, 0}, {0, 0, -1},
            {0, 0, 17}, {Integer.MIN_VALUE, Integer.MAX_VALUE, 0}};
        for (int[] w : wrong) {
            check.refused("add", ARGUMENT, () -> x.add(w[0], w[1], w[2]));
        }
        for (int i = 1; i <= 800; i++) {
            check.due("add", x.add(1, i, 0), i);
        }
        check.refused("glyph 801", STATE, () -> x.add(1, 1, 0));
        check.refused("the first one wins", ARGUMENT, () -> x.add(1, 1, 17));
        check.due("set", x.set(true), 800);
        check.due("the last one's width", x.place(799, 0), 810);
        check.due("clear", x.clear(), 800);
        check.due("add", x.add(1, 1, 0), 1);
    }
}
