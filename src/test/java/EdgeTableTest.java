/** The boundary cases of promises 1 to 4, of THE TABLE, and of calls that throw. */
public final class EdgeTableTest {
    private static final Class<IllegalArgumentException> ARGUMENT = IllegalArgumentException.class;
    private static final Class<IndexOutOfBoundsException> INDEX = IndexOutOfBoundsException.class;
    private static final Class<IllegalStateException> STATE = IllegalStateException.class;
    private static final int NONE = GlyphPositions.NONE;
    private static final int MIN = Integer.MIN_VALUE;
    private static final int MAX = Integer.MAX_VALUE;

    public static void main(String[] args) {
        Sentences all = new Sentences("EdgeTableTest");
        all.test("`GlyphPositions()`: An empty table, no font;", EdgeTableTest::emptyTableNoFont);
        all.test("no kinds, no features; script and language 0; no glyphs.",
                EdgeTableTest::nothingTold);
        all.test("script and language 0;", EdgeTableTest::scriptAndLanguageZero);
        all.test("Four bytes more in the table, the highest first: how many it has;",
                EdgeTableTest::fourBytesMore);
        all.test("NONE (and nothing happens) if there would be more than 8192.",
                EdgeTableTest::noMoreThan8192);
        all.test("THE TABLE has at most 8192 bytes.", EdgeTableTest::allOf8192AreLoaded);
        all.test("A byte of the table becomes b: what it was.", EdgeTableTest::byteBecomes);
        all.test("IndexOutOfBounds: there is none such;", EdgeTableTest::noSuchByte);
        all.test("IllegalArgument: b is not 0 .. 255.", EdgeTableTest::noByte);
        all.test("Only the first bytes, so many, are left (all, if there are fewer): "
                + "how many are gone.", EdgeTableTest::onlyTheFirstAreLeft);
        all.test("IllegalArgument: many is below 0.", EdgeTableTest::manyBelowZero);
        all.test("A call that throws changes nothing;", EdgeTableTest::throwingChangesNothing);
        all.test("a set() that throws sets nothing", EdgeTableTest::setThatThrows);
        all.test("where it lists more than one exception, the first one wins.",
                EdgeTableTest::firstOneWins);
        all.end();
    }

    private static void emptyTableNoFont(Check check) {
        GlyphPositions x = new GlyphPositions();
        check.refused("put(0, 0)", INDEX, () -> x.put(0, 0));
        check.due("cut(0)", x.cut(0), 0);
        check.due("load()", x.load(), GlyphPositions.HEAD);
        check.refused("set(false)", STATE, () -> x.set(false));
        check.refused("set(true)", STATE, () -> x.set(true));
        check.refused("place(0, 0)", INDEX, () -> x.place(0, 0));
        check.due("feed(0)", x.feed(0), 4);
    }

    private static void nothingTold(Check check) {
        GlyphPositions x = new GlyphPositions();
        check.due("forget()", x.forget(), 0);
        check.due("clear()", x.clear(), 0);
        check.due("add", x.add(0, 0, 0), 1);
        for (int tag = 0; tag < 20; tag++) {
            x.feature(tag, true);
        }
        check.refusedTelling("tag 21", STATE, () -> x.feature(20, true));
        for (int k = 0; k < 256; k++) {
            x.kind(0, 0, 3, 0);
        }
        check.due("forget()", x.forget(), 256);
    }

    /** Script 0 makes the glyph wider by 1 with its language 0, DFLT by 2. */
    private static void scriptAndLanguageZero(Check check) {
        Part features = Fonts.tagged(new Part(), 1, Fonts.feature(0), 2, Fonts.feature(1));
        Part zero = Fonts.script(null, 0, Fonts.language(0), 1, Fonts.language(1));
        Part scripts = Fonts.tagged(new Part(), 0, zero,
                Fonts.DFLT, Fonts.script(Fonts.language(1)));
        GlyphPositions x = Fonts.fed(Fonts.head(scripts, features,
                Fonts.lookups(Fonts.wider(1, 7), Fonts.wider(2, 7))).bytes());
        check.due("load()", x.load(), 2);
        Fonts.glyphs(x, 7).set(false);
        check.due("width", x.place(0, 0), 101);
    }

    private static void fourBytesMore(Check check) {
        GlyphPositions x = new GlyphPositions();
        check.due("feed(0x01fe8000)", x.feed(0x01fe8000), 4);
        check.due("feed(-2)", x.feed(-2), 8);
        check.due("feed(MIN)", x.feed(MIN), 12);
        check.due("feed(MAX)", x.feed(MAX), 16);
        int[] due = {1, 254, 128, 0, 255, 255, 255, 254, 128, 0, 0, 0, 127, 255, 255, 255};
        for (int i = 0; i < due.length; i++) {
            check.due("byte " + i, x.put(i, 0), due[i]);
        }
        check.refused("byte 16", INDEX, () -> x.put(16, 0));
        check.due("cut(13)", x.cut(13), 3);
        check.due("feed behind 13 bytes", x.feed(0x21222324), 17);
        check.due("byte 13", x.put(13, 0), 0x21);
        check.due("byte 16", x.put(16, 0), 0x24);
    }

    private static GlyphPositions full() {
        GlyphPositions x = new GlyphPositions();
        for (int k = 0; k < 2048; k++) {
            x.feed(0x01020304);
        }
        return x;
    }

    private static void noMoreThan8192(Check check) {
        GlyphPositions x = full();
        check.due("feed of 8192", x.feed(-1), NONE);
        check.due("its last byte", x.put(8191, 9), 4);
        check.refused("byte 8192", INDEX, () -> x.put(8192, 0));
        for (int size = 8191; size >= 8189; size--) {
            check.due("cut(" + size + ")", x.cut(size), 1);
            check.due("feed of " + size, x.feed(-1), NONE);
            check.due("nothing happens", x.put(size - 1, 77), size - 8188);
            int behind = size;
            check.refused("nothing is fed", INDEX, () -> x.put(behind, 0));
        }
        check.due("cut(8188)", x.cut(8188), 1);
        check.due("feed of 8188", x.feed(0x0a0b0c0d), 8192);
        check.due("its last byte", x.put(8191, 0), 0x0d);
        check.due("feed of 8192", x.feed(-1), NONE);
    }

    /** All parts but HEAD stand in the last two bytes; one further on they do not lie there. */
    private static void allOf8192AreLoaded(Check check) {
        GlyphPositions x = new GlyphPositions();
        int[] words = {0x00010000, 0x1ffe1ffe, 0x1ffe0000};
        for (int k = 0; k < 2048; k++) {
            x.feed(k < words.length ? words[k] : 0);
        }
        check.due("n at 8190", x.load(), 0);
        x.put(8191, 65);
        check.due("65 scripts", x.load(), GlyphPositions.SCRIPTS);
        x.put(8191, 0);
        check.due("n at 8190", x.load(), 0);
        x.put(9, 0xff);
        check.due("LOOKUPS at 8191", x.load(), GlyphPositions.LOOKUPS);
        x.put(7, 0xff);
        check.due("FEATURES at 8191", x.load(), GlyphPositions.FEATURES);
        x.put(5, 0xff);
        check.due("SCRIPTS at 8191", x.load(), GlyphPositions.SCRIPTS);
    }

    private static void byteBecomes(Check check) {
        GlyphPositions x = new GlyphPositions();
        x.feed(0x807f00ff);
        int[] was = {0x80, 0x7f, 0, 0xff};
        for (int i = 0; i < 4; i++) {
            check.due("put(" + i + ", 255)", x.put(i, 255), was[i]);
            check.due("put(" + i + ", 0)", x.put(i, 0), 255);
            check.due("put(" + i + ", 128)", x.put(i, 128), 0);
            check.due("put(" + i + ", 1)", x.put(i, 1), 128);
        }
        check.due("as many as before", x.feed(0), 8);
    }

    private static void noSuchByte(Check check) {
        GlyphPositions x = new GlyphPositions();
        check.refused("of none", INDEX, () -> x.put(0, 0));
        x.feed(0);
        for (int i : new int[] {-1, 4, 5, 8191, 8192, MIN, MAX}) {
            check.refused("put(" + i + ", 0)", INDEX, () -> x.put(i, 0));
        }
        x.cut(3);
        check.refused("behind the cut", INDEX, () -> x.put(3, 0));
        check.due("in front of it", x.put(2, 0), 0);
    }

    private static void noByte(Check check) {
        GlyphPositions x = new GlyphPositions();
        x.feed(0x05060708);
        for (int b : new int[] {-1, 256, 257, MIN, MAX}) {
            check.refused("put(1, " + b + ")", ARGUMENT, () -> x.put(1, b));
        }
        check.due("as it was", x.put(1, 0), 6);
    }

    private static void onlyTheFirstAreLeft(Check check) {
        GlyphPositions x = new GlyphPositions();
        check.due("cut(0) of none", x.cut(0), 0);
        check.due("cut(MAX) of none", x.cut(MAX), 0);
        x.feed(0x01020304);
        x.feed(0x05060708);
        check.due("cut(MAX)", x.cut(MAX), 0);
        check.due("cut(9)", x.cut(9), 0);
        check.due("cut(8)", x.cut(8), 0);
        check.due("cut(7)", x.cut(7), 1);
        check.due("the last one left", x.put(6, 7), 7);
        check.refused("the one gone", INDEX, () -> x.put(7, 0));
        check.due("cut(1)", x.cut(1), 6);
        check.due("the first one", x.put(0, 1), 1);
        check.due("cut(0)", x.cut(0), 1);
        check.refused("the first one", INDEX, () -> x.put(0, 0));
        GlyphPositions y = full();
        check.due("cut(8193)", y.cut(8193), 0);
        check.due("cut(8192)", y.cut(8192), 0);
        check.due("cut(0) of 8192", y.cut(0), 8192);
    }

    private static void manyBelowZero(Check check) {
        GlyphPositions x = new GlyphPositions();
        check.refused("cut(-1) of none", ARGUMENT, () -> x.cut(-1));
        x.feed(0);
        check.refused("cut(-1)", ARGUMENT, () -> x.cut(-1));
        check.refused("cut(MIN)", ARGUMENT, () -> x.cut(MIN));
        check.due("all are left", x.cut(0), 4);
    }

    private static void throwingChangesNothing(Check check) {
        GlyphPositions x = Fonts.loaded(Fonts.wider(1, 7));
        int size = x.feed(0) - 4;
        x.cut(size);
        Fonts.glyphs(x, 7, 8).set(false);
        x.clear();
        x.add(8, 1, 0);
        check.refused("put", INDEX, () -> x.put(size, 255));
        check.refused("put", ARGUMENT, () -> x.put(0, 256));
        check.refused("cut", ARGUMENT, () -> x.cut(-1));
        check.refusedTelling("kind", ARGUMENT, () -> x.kind(7, 7, 4, 0));
        check.refused("add", ARGUMENT, () -> x.add(7, 65536, 0));
        check.refused("place", INDEX, () -> x.place(0, 6));
        check.placed("the run set last", x, 0, 101, 0, 0, 0, 0, NONE);
        check.placed("the run set last", x, 1, 100, 0, 0, 0, 101, NONE);
        check.due("no range", x.forget(), 0);
        check.due("one glyph", x.clear(), 1);
        check.due("the table", x.load(), 1);
        check.due("its size", x.cut(0), size);
        fullOnesChangeNothing(check);
    }

    private static void fullOnesChangeNothing(Check check) {
        GlyphPositions x = Fonts.loaded(Fonts.lookup(1, 8, Fonts.widening(1, 7)));
        for (int k = 0; k < 256; k++) {
            x.kind(8, 8, 3, 0);
        }
        check.refusedTelling("kind", STATE, () -> x.kind(7, 7, 3, 0));
        for (int k = 0; k < 800; k++) {
            x.add(7, 5, 0);
        }
        check.refused("add", STATE, () -> x.add(8, 6, 0));
        for (int tag = 0; tag < 20; tag++) {
            x.feature(tag, false);
        }
        check.refusedTelling("feature", STATE, () -> x.feature(20, true));
        check.refusedTelling("feature again", STATE, () -> x.feature(20, true));
        check.due("set", x.set(false), 800);
        check.due("the last one", x.place(799, 0), 6);
        check.due("256 ranges", x.forget(), 256);
        check.due("800 glyphs", x.clear(), 800);
    }

    private static void setThatThrows(Check check) {
        GlyphPositions x = new GlyphPositions();
        Fonts.glyphs(x, 7, 8);
        check.refused("set", STATE, () -> x.set(false));
        check.refused("place(0, 0)", INDEX, () -> x.place(0, 0));
        check.refused("place(1, 5)", INDEX, () -> x.place(1, 5));
        check.due("they stay told", x.clear(), 2);
    }

    private static void firstOneWins(Check check) {
        GlyphPositions x = new GlyphPositions();
        check.refused("put(0, 256) of none", INDEX, () -> x.put(0, 256));
        x.feed(0);
        check.refused("put(4, -1)", INDEX, () -> x.put(4, -1));
        check.refused("put(-1, 256)", INDEX, () -> x.put(-1, 256));
        for (int k = 0; k < 256; k++) {
            x.kind(1, 1, 1, 1);
        }
        int[][] kinds = {{-1, 1, 1, 1}, {1, 65536, 1, 1}, {2, 1, 1, 1}, {1, 1, 4, 1},
            {1, 1, 1, 256}};
        for (int[] k : kinds) {
            check.refusedTelling("kind", ARGUMENT, () -> x.kind(k[0], k[1], k[2], k[3]));
        }
        for (int k = 0; k < 800; k++) {
            x.add(1, 1, 1);
        }
        int[][] glyphs = {{-1, 1, 1}, {65536, 1, 1}, {1, -1, 1}, {1, 65536, 1}, {1, 1, -1},
            {1, 1, 17}};
        for (int[] g : glyphs) {
            check.refused("add", ARGUMENT, () -> x.add(g[0], g[1], g[2]));
        }
    }
}
