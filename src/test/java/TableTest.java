/** Promises 1 to 4: a new object, and the bytes of its table. */
public final class TableTest {
    private static final Class<IllegalArgumentException> ARGUMENT = IllegalArgumentException.class;
    private static final Class<IndexOutOfBoundsException> INDEX = IndexOutOfBoundsException.class;
    private static final Class<IllegalStateException> STATE = IllegalStateException.class;

    public static void main(String[] args) {
        Check check = new Check("TableTest");
        newObject(check);
        feed(check);
        put(check);
        cut(check);
        full(check);
        check.end();
    }

    private static void newObject(Check check) {
        GlyphPositions x = new GlyphPositions();
        check.refused("set of a new object", STATE, () -> x.set(false));
        check.refused("place of a new object", INDEX, () -> x.place(0, 0));
        check.refused("put of a new object", INDEX, () -> x.put(0, 0));
        check.due("load of a new object", x.load(), GlyphPositions.HEAD);
        check.due("cut of a new object", x.cut(0), 0);
        check.due("forget of a new object", x.forget(), 0);
        check.due("clear of a new object", x.clear(), 0);
        check.due("first feed", x.feed(0), 4);
        scriptAndLanguageAreZero(check);
    }

    private static void scriptAndLanguageAreZero(Check check) {
        Part wider = Fonts.single(Fonts.covers(7), 4, 11);
        Part scripts = Fonts.tagged(new Part(),
                0, Fonts.script(null, 0, Fonts.language(0)),
                Fonts.DFLT, Fonts.script(null));
        Part features = Fonts.tagged(new Part(), 0, Fonts.feature(0));
        Part lookups = Fonts.lookups(Fonts.lookup(1, 0, wider));
        GlyphPositions x = Fonts.fed(Fonts.head(scripts, features, lookups).bytes());
        check.due("load", x.load(), 1);
        Fonts.glyphs(x, 7).set(false);
        check.due("width by script 0, language 0", x.place(0, 0), 111);
    }

    private static void feed(Check check) {
        GlyphPositions x = new GlyphPositions();
        check.due("feed", x.feed(0x01fe8000), 4);
        check.due("feed", x.feed(-2), 8);
        int[] bytes = {1, 254, 128, 0, 255, 255, 255, 254};
        for (int i = 0; i < bytes.length; i++) {
            check.due("byte " + i, x.put(i, 0), bytes[i]);
        }
    }

    private static void put(Check check) {
        GlyphPositions x = new GlyphPositions();
        x.feed(0);
        check.due("put(3, 255)", x.put(3, 255), 0);
        check.due("put(3, 0)", x.put(3, 0), 255);
        check.refused("put(-1, 0)", INDEX, () -> x.put(-1, 0));
        check.refused("put(4, 0)", INDEX, () -> x.put(4, 0));
        check.refused("put(MIN, 0)", INDEX, () -> x.put(Integer.MIN_VALUE, 0));
        check.refused("put(MAX, 0)", INDEX, () -> x.put(Integer.MAX_VALUE, 0));
        check.refused("put(4, 256): the first one wins", INDEX, () -> x.put(4, 256));
        check.refused("put(0, 256)", ARGUMENT, () -> x.put(0, 256));
        check.refused("put(0, -1)", ARGUMENT, () -> x.put(0, -1));
        check.due("byte 0 is as it was", x.put(0, 0), 0);
    }

    private static void cut(Check check) {
        GlyphPositions x = new GlyphPositions();
        x.feed(0x01020304);
        x.feed(0x05060708);
        check.refused("cut(-1)", ARGUMENT, () -> x.cut(-1));
        check.due("cut(9)", x.cut(9), 0);
        check.due("cut(8)", x.cut(8), 0);
        check.due("cut(MAX)", x.cut(Integer.MAX_VALUE), 0);
        check.due("cut(5)", x.cut(5), 3);
        check.refused("put behind the cut", INDEX, () -> x.put(5, 0));
        check.due("feed behind the cut", x.feed(0x11121314), 9);
        check.due("byte 4", x.put(4, 0), 5);
        check.due("byte 5", x.put(5, 0), 0x11);
        check.due("byte 8", x.put(8, 0), 0x14);
        check.due("cut(0)", x.cut(0), 9);
        check.due("feed", x.feed(0), 4);
    }

    /** More calls than an object is used for, but the limit is the document's. */
    private static void full(Check check) {
        GlyphPositions x = new GlyphPositions();
        for (int i = 0; i < 2048; i++) {
            x.feed(i);
        }
        check.due("feed of a full table", x.feed(1), GlyphPositions.NONE);
        check.due("its last byte", x.put(8191, 9), 2047 & 255);
        check.due("cut(8189)", x.cut(8189), 3);
        check.due("feed beyond 8192", x.feed(1), GlyphPositions.NONE);
        check.due("cut(8188)", x.cut(8188), 1);
        check.due("feed up to 8192", x.feed(1), 8192);
    }
}
