import java.util.Arrays;

/** The boundary cases of SETTING with single glyphs and pairs, and of promises 12 and 13. */
public final class EdgeSetTest {
    private static final Class<IndexOutOfBoundsException> INDEX = IndexOutOfBoundsException.class;
    private static final Class<IllegalStateException> STATE = IllegalStateException.class;
    private static final int NONE = GlyphPositions.NONE;
    private static final int MIN = Integer.MIN_VALUE;
    private static final int MAX = Integer.MAX_VALUE;

    public static void main(String[] args) {
        Sentences all = new Sentences("EdgeSetTest");
        all.test("S16 a U16 with a sign.", EdgeSetTest::signs);
        all.test("Which lookups are carried out, by rising numbers:", EdgeSetTest::risingNumbers);
        all.test("those of the features of the language that are on (by the tag told), and of the "
                + "one it requires;", EdgeSetTest::onOrRequired);
        all.test("the script is that with the tag told, or else that of the tag DFLT "
                + "(0x44464c54),", EdgeSetTest::scriptToldOrDflt);
        all.test("the language that with the tag told, or else the standard one; without one no "
                + "lookups are.", EdgeSetTest::languageToldOrStandard);
        all.test("Each glyph has at first its width told, moved by 0, 0, higher by 0, and hangs on "
                + "nothing.", EdgeSetTest::atFirst);
        all.test("A lookup goes from the first glyph to the last; where one is not passed over, "
                + "the first subtable that takes it does.", EdgeSetTest::firstSubtableThatTakes);
        all.test("Then on with the next one; but behind a TYPE 2 whose second VALUE has some bit, "
                + "behind the second.", EdgeSetTest::behindTheSecond);
        all.test("NEXT is the next glyph that is not passed over;", EdgeSetTest::next);
        all.test("sums wrap within 32 bits.", EdgeSetTest::sumsWrap);
        all.test("the k-th has INDEX k, from 0 on.", EdgeSetTest::indexOfGlyphs);
        all.test("INDEX of the first:", EdgeSetTest::indexOfRanges);
        all.test("n classes of the glyphs from first on (up to 65535);",
                EdgeSetTest::classesFromFirstOn);
        all.test("Others have class 0.", EdgeSetTest::othersHaveClassZero);
        all.test("for each bit set, from bit 0 on, an S16: MOVED right, MOVED up, WIDER, HIGHER, "
                + "four more (anything).", EdgeSetTest::bitsOfValues);
        all.test("the glyph gets it (what it is MOVED, its width, what it is HIGHER become more by "
                + "that).", EdgeSetTest::becomeMore);
        all.test("TYPE 1: it is covered.", EdgeSetTest::covered);
        all.test("TYPE 2: it is covered, there is a NEXT, and (form 1) that is in its row,",
                EdgeSetTest::inItsRow);
        all.test("(form 2) both classes are below n and m: first and second get their VALUES.",
                EdgeSetTest::classesBelow);
        all.test("SETTING, from left to right, or BACK, of the glyphs told, with kinds, tags and "
                + "features as they are now:", EdgeSetTest::asTheyAreNow);
        all.test("how many glyphs the run has (they stay told).", EdgeSetTest::theyStayTold);
        all.test("IllegalState: no table is loaded.", EdgeSetTest::noTable);
        all.test("Of glyph i of the run set last (whatever was told or loaded since):",
                EdgeSetTest::runSetLast);
        all.test("what = 0 its width, 1 what it is higher, 2 what it is moved right, 3 up, 4 the "
                + "sum of widths before it and what it is moved right, 5 the glyph it hangs on "
                + "(its number; NONE for none).", EdgeSetTest::whatIsAsked);
        all.test("IndexOutOfBounds: there is no such glyph (or nothing was set;",
                EdgeSetTest::noSuchGlyph);
        all.test("or what is not 0 .. 5.", EdgeSetTest::noSuchQuestion);
        all.end();
    }

    private static void widths(Check check, String run, GlyphPositions x, int... due) {
        check.due(run + ": set", x.set(false), due.length);
        for (int i = 0; i < due.length; i++) {
            check.due(run + ": width of " + i, x.place(i, 0), due[i]);
        }
    }

    private static void signs(Check check) {
        Part single = Fonts.single(Fonts.covers(1), 15, 0x8000, 0x7fff, 0xffff, 0x8001);
        GlyphPositions x = Fonts.glyphs(Fonts.loaded(Fonts.lookup(1, 0, single)), 1, 1);
        x.set(false);
        check.placed("VALUE", x, 1, 99, -32767, -32768, 32767, 99 - 32768, NONE);
        Part on = Fonts.marksOn(Fonts.covers(60), Fonts.covers(50), 1,
                Fonts.marks(0, Fonts.anchor(0x8000, 0x7fff)),
                Fonts.bases(1, Fonts.anchor(0x7fff, 0x8000)));
        GlyphPositions y = Fonts.loaded(Fonts.lookup(4, 0, on));
        y.kind(60, 60, 3, 0);
        y.add(50, 0, 0);
        y.add(60, 0, 0);
        y.set(false);
        check.placed("ANCHORS", y, 1, 0, 0, 65535, -65535, 65535, 0);
    }

    /** Moved by 9, then joined at 80, then moved by 9: in another order widths differ. */
    private static void risingNumbers(Check check) {
        Part move = Fonts.lookup(1, 0, Fonts.single(Fonts.covers(1, 2), 1, 9));
        Part join = Fonts.lookup(3, 0, Fonts.cursive(Fonts.covers(1, 2),
                null, Fonts.anchor(80, 0), Fonts.anchor(7, 0), null));
        int[][][] features = {{{2, 1, 0}, {}}, {{0, 1, 2}, {}}, {{2}, {1, 0}}, {{1}, {2, 0, 2}},
            {{0, 0, 1, 1, 2, 2}, {2, 1, 0}}};
        for (int[][] f : features) {
            Part list = Fonts.tagged(new Part(), 1, Fonts.feature(f[0]), 1, Fonts.feature(f[1]));
            for (int[] order : new int[][] {{0, 1}, {1, 0}, {1, 0, 1, 0}}) {
                Part scripts = Fonts.tagged(new Part(), Fonts.DFLT,
                        Fonts.script(Fonts.language(65535, order)));
                GlyphPositions x = Fonts.fed(Fonts.head(scripts, list,
                        Fonts.lookups(move, join, move)).bytes());
                check.due("load()", x.load(), 3);
                x.feature(1, true);
                Fonts.glyphs(x, 1, 2).set(false);
                check.placed(Arrays.deepToString(f), x, 0, 89, 0, 18, 0, 18, NONE);
                check.placed(Arrays.deepToString(f), x, 1, 84, 0, 2, 0, 91, 0);
            }
        }
    }

    /** Feature k, with the tag 10 + k, makes glyph 1 wider by 2 to the k. */
    private static GlyphPositions byLanguage(Part language) {
        return byScripts(Fonts.tagged(new Part(), Fonts.DFLT, Fonts.script(language)));
    }

    private static GlyphPositions byScripts(Part scripts) {
        Object[] features = new Object[8];
        Part[] lookups = new Part[4];
        for (int k = 0; k < 4; k++) {
            features[2 * k] = 10 + k;
            features[2 * k + 1] = Fonts.feature(k);
            lookups[k] = Fonts.wider(1 << k, 1);
        }
        GlyphPositions x = Fonts.fed(Fonts.head(scripts, Fonts.tagged(new Part(), features),
                Fonts.lookups(lookups)).bytes());
        if (x.load() != 4) {
            throw new IllegalStateException("the font of a test is not as said");
        }
        return Fonts.glyphs(x, 1);
    }

    private static void onOrRequired(Check check) {
        GlyphPositions x = byLanguage(Fonts.language(2, 0, 1));
        widths(check, "required alone", x, 104);
        x.feature(10, true);
        widths(check, "one is on", x, 105);
        x.feature(13, true);
        widths(check, "one that the language has not", x, 105);
        x.feature(12, false);
        widths(check, "the required one is off", x, 105);
        x.feature(12, true);
        widths(check, "the required one is on", x, 105);
        x.feature(11, true);
        widths(check, "all are on", x, 107);
        x.feature(10, false);
        widths(check, "one is off again", x, 106);
        GlyphPositions y = byLanguage(Fonts.language(0, 0, 0));
        y.feature(10, true);
        widths(check, "required and on: once", y, 101);
        GlyphPositions z = byLanguage(Fonts.language(65535));
        z.feature(10, true);
        widths(check, "neither", z, 100);
        GlyphPositions w = byLanguage(Part.of(0, 65535, 1, 0, 1));
        w.feature(10, true);
        w.feature(11, true);
        widths(check, "what stands behind its features", w, 101);
        theLastOfSixtyFour(check);
    }

    private static void theLastOfSixtyFour(Check check) {
        Part[] lookups = new Part[64];
        Arrays.fill(lookups, Fonts.lookup(1, 0));
        lookups[0] = Fonts.wider(1, 1);
        lookups[63] = Fonts.wider(2, 1);
        Part scripts = Fonts.tagged(new Part(), Fonts.DFLT,
                Fonts.script(Fonts.language(65535, 0, 1)));
        Part behind = Part.of(0, 1, 63, 0);
        GlyphPositions x = Fonts.fed(Fonts.head(scripts,
                Fonts.tagged(new Part(), 10, Fonts.feature(0), 11, behind),
                Fonts.lookups(lookups)).bytes());
        check.due("load()", x.load(), 64);
        Fonts.glyphs(x, 1);
        x.feature(11, true);
        widths(check, "lookup 63", x, 102);
        x.feature(10, true);
        widths(check, "lookups 0 and 63", x, 103);
        x.feature(11, false);
        widths(check, "lookup 0", x, 101);
        x.feature(10, false);
        widths(check, "none", x, 100);
    }

    private static void scriptToldOrDflt(Check check) {
        int dflt = 0x44464c54;
        Part empty = Fonts.script(null, 7, Fonts.language(3));
        Part scripts = Fonts.tagged(new Part(), 5, Fonts.script(Fonts.language(0)), 6, empty,
                dflt, Fonts.script(Fonts.language(1), 8, Fonts.language(2)));
        GlyphPositions x = byScripts(scripts);
        int[][] rows = {{5, 0, 101}, {5, 8, 101}, {6, 7, 108}, {6, 0, 100}, {6, 8, 100},
            {4, 0, 102}, {7, 8, 104}, {dflt, 0, 102}, {dflt, 8, 104}, {-1, 7, 102}};
        for (int[] row : rows) {
            x.choose(row[0], row[1]);
            widths(check, "choose(" + row[0] + ", " + row[1] + ")", x, row[2]);
        }
        int before = 0;
        for (int i = 6; i < 10; i++) {
            before = before << 8 | x.put(i, 0);
        }
        x.choose(before, 0);
        widths(check, "what stands before the scripts is no tag", x, 102);
        for (int near : new int[] {dflt - 1, dflt + 1, dflt ^ 0x20202020, dflt + 0x1000000}) {
            GlyphPositions y = byScripts(
                    Fonts.tagged(new Part(), near, Fonts.script(Fonts.language(0))));
            widths(check, "no DFLT but " + near, y, 100);
            y.choose(near, 0);
            widths(check, "the one told", y, 101);
        }
        widths(check, "no scripts", byScripts(Tables.none()), 100);
    }

    private static void languageToldOrStandard(Check check) {
        GlyphPositions x = byScripts(Fonts.tagged(new Part(), Fonts.DFLT,
                Fonts.script(Fonts.language(0), 5, Fonts.language(1), 6, Fonts.language(65535))));
        int[][] rows = {{5, 102}, {6, 100}, {4, 101}, {0, 101}, {7, 101}, {Fonts.DFLT, 101}};
        for (int[] row : rows) {
            x.choose(0, row[0]);
            widths(check, "language " + row[0], x, row[1]);
        }
        GlyphPositions y = byScripts(Fonts.tagged(new Part(), Fonts.DFLT,
                Fonts.script(null, Fonts.DFLT, Fonts.language(0), 0x7fffffff, Fonts.language(1))));
        widths(check, "no standard one", y, 100);
        y.choose(0, 0x7fffffff);
        widths(check, "the one told", y, 102);
        y.choose(0, -1);
        widths(check, "neither", y, 100);
    }

    private static void atFirst(Check check) {
        Part on = Fonts.marksOn(Fonts.covers(60), Fonts.covers(50), 1,
                Fonts.marks(0, Fonts.anchor(1, 2)), Fonts.bases(1, Fonts.anchor(3, 5)));
        Part all = Fonts.single(Fonts.covers(50), 15, 1, 2, 3, 4);
        GlyphPositions x = Fonts.loaded(Fonts.lookup(1, 0, all), Fonts.lookup(4, 0, on));
        x.kind(60, 60, 3, 0);
        Fonts.glyphs(x, 50, 60);
        for (int times = 0; times < 3; times++) {
            x.set(false);
            check.placed("set anew", x, 0, 103, 4, 1, 2, 1, NONE);
            check.placed("set anew", x, 1, 100, 0, 3 - 103, 5 - 4, 3, 0);
        }
        x.clear();
        x.add(7, 0, 0);
        x.add(8, 65535, 0);
        x.set(true);
        check.placed("as told", x, 0, 0, 0, 0, 0, 0, NONE);
        check.placed("as told", x, 1, 65535, 0, 0, 0, 0, NONE);
    }

    private static void firstSubtableThatTakes(Check check) {
        Part one = Fonts.widening(1, 1);
        Part two = Fonts.widening(2, 1, 2);
        Part none = Fonts.single(Fonts.covers(3), 0);
        Part four = Fonts.widening(4, 1, 2, 3, 4);
        GlyphPositions x = Fonts.loaded(Fonts.lookup(1, 2, one, two, none, four));
        x.kind(9, 9, 1, 0);
        Fonts.glyphs(x, 1, 2, 3, 4, 9, 5, 1);
        widths(check, "subtables", x, 101, 102, 100, 104, 100, 100, 101);
        Part[] sixteen = new Part[16];
        for (int k = 0; k < 16; k++) {
            sixteen[k] = Fonts.widening(k + 1, 20 + k);
        }
        GlyphPositions y = Fonts.loaded(Fonts.lookup(1, 0, sixteen));
        widths(check, "of sixteen", Fonts.glyphs(y, 35, 20, 36), 116, 101, 100);
        widths(check, "of none", Fonts.glyphs(Fonts.loaded(Fonts.lookup(1, 0)), 1), 100);
        GlyphPositions w = Fonts.loaded(Part.of(1, 0, 1).to(one, two));
        widths(check, "what stands behind its subtables", Fonts.glyphs(w, 1, 2), 101, 100);
        // Covered, but with another glyph behind it: the second subtable is asked.
        Part rowOfTwo = Fonts.pairs(Fonts.covers(1), 4, 0, Part.of(1, 2, 10));
        Part rowOfThree = Fonts.pairs(Fonts.covers(1), 4, 0, Part.of(2, 2, 20, 3, 30));
        GlyphPositions z = Fonts.loaded(Fonts.lookup(2, 0, rowOfTwo, rowOfThree));
        widths(check, "pairs", Fonts.glyphs(z, 1, 2, 1, 3, 1, 1), 110, 100, 130, 100, 100, 100);
    }

    /** Glyph 1 before glyph 1: in the row, with 10 for the first. */
    private static GlyphPositions pairsOfOnes(int bitsOfSecond, int form, int flag) {
        int[] second = new int[Integer.bitCount(bitsOfSecond)];
        Part c = Fonts.covers(1);
        Part k = Fonts.classes(1, 1);
        Part pairs = form == 1
                ? Fonts.pairs(c, 4, bitsOfSecond, Part.of(1, 1, 10).u16(second))
                : Fonts.pairClasses(c, 4, bitsOfSecond, Fonts.classes(0), k).u16(1, 2)
                        .u16(10).u16(second).u16(10).u16(second);
        return Fonts.loaded(Fonts.lookup(2, flag, pairs));
    }

    private static void behindTheSecond(Check check) {
        for (int form = 1; form <= 2; form++) {
            GlyphPositions x = Fonts.glyphs(pairsOfOnes(0, form, 0), 1, 1, 1, 1);
            widths(check, "no bit, form " + form, x, 110, 110, 110, 100);
            for (int bit = 0; bit < 8; bit++) {
                GlyphPositions y = Fonts.glyphs(pairsOfOnes(1 << bit, form, 0), 1, 1, 1, 1, 1);
                widths(check, "bit " + bit + ", form " + form, y, 110, 100, 110, 100, 100);
            }
        }
        GlyphPositions x = pairsOfOnes(1, 1, 8);
        x.kind(9, 9, 3, 0);
        Fonts.glyphs(x, 1, 9, 1, 9, 1, 1, 9, 9);
        widths(check, "passed over between", x, 110, 100, 100, 100, 110, 100, 100, 100);
        GlyphPositions y = Fonts.glyphs(pairsOfOnes(1, 1, 0), 1, 2, 1, 1, 1, 2);
        widths(check, "not taken, not behind", y, 100, 100, 110, 100, 100, 100);
        // The second of a pair may be the first of no pair, though it is covered.
        Part both = Fonts.pairs(Fonts.covers(1, 2), 4, 4,
                Part.of(1, 2, 10, 1000), Part.of(1, 3, 20, 2000));
        GlyphPositions z = Fonts.glyphs(Fonts.loaded(Fonts.lookup(2, 0, both)), 1, 2, 3, 2, 3);
        widths(check, "the second is left out", z, 110, 1100, 100, 120, 2100);
    }

    private static void next(Check check) {
        Part pair = Fonts.pairs(Fonts.covers(1), 4, 0, Part.of(1, 2, 10));
        int[] flags = {2, 4, 8, 0x0100};
        for (int k = 0; k < flags.length; k++) {
            GlyphPositions x = Fonts.loaded(Fonts.lookup(2, flags[k], pair));
            x.kind(9, 9, k == 3 ? 3 : k + 1, 2);
            Fonts.glyphs(x, 1, 2, 1, 9, 2, 1, 9, 9, 9, 2, 1, 9, 3, 2, 1, 9);
            widths(check, "FLAG " + flags[k], x, 110, 100, 110, 100, 100, 110, 100, 100, 100, 100,
                    100, 100, 100, 100, 100, 100);
        }
        GlyphPositions y = Fonts.loaded(Fonts.lookup(2, 0, pair));
        y.kind(9, 9, 3, 2);
        widths(check, "none is passed over", Fonts.glyphs(y, 1, 9, 2), 100, 100, 100);
        GlyphPositions z = Fonts.loaded(Fonts.lookup(2, 8, pair));
        z.kind(1, 2, 3, 0);
        widths(check, "all are passed over", Fonts.glyphs(z, 1, 2), 100, 100);
        widths(check, "one glyph", Fonts.glyphs(Fonts.loaded(Fonts.lookup(2, 0, pair)), 1), 100);
    }

    /** Each mark hangs on the one before it, so that what they are moved adds up. */
    private static GlyphPositions hangingInARow(int right) {
        Part on = Fonts.marksOn(Fonts.covers(60), Fonts.covers(60), 1,
                Fonts.marks(0, Fonts.anchor(0, 0)), Fonts.bases(1, Fonts.anchor(right, right)));
        Part most = Fonts.single(Fonts.covers(60), 15, right, right, 32767, -right);
        Part[] lookups = new Part[64];
        Arrays.fill(lookups, Fonts.lookup(1, 0, most));
        lookups[0] = Fonts.lookup(6, 0, on);
        GlyphPositions x = Fonts.loaded(lookups);
        x.kind(60, 60, 3, 0);
        for (int i = 0; i < 800; i++) {
            x.add(60, 65535, 0);
        }
        return x;
    }

    private static void sumsWrap(Check check) {
        long moved = 63 * 32767;
        long width = 65535 + moved;
        GlyphPositions x = hangingInARow(32767);
        x.set(true);
        long right = moved + 799 * (moved + 32767 + width);
        check.due("it is beyond 32 bits", right > MAX ? 1 : 0, 1);
        check.due("BACK, moved right", x.place(799, 2), (int) right);
        check.due("BACK, and widths", x.place(799, 4), (int) (right + 799 * width));
        GlyphPositions y = hangingInARow(-32767);
        y.set(false);
        long left = -moved + 799 * (-moved - 32767 - width);
        check.due("it is beyond 32 bits", left < MIN ? 1 : 0, 1);
        check.due("moved right", y.place(799, 2), (int) left);
        check.due("and widths", y.place(799, 4), (int) (left + 799 * width));
        long up = -moved + 799 * (-moved - 32767 - moved);
        check.due("it is beyond 32 bits", up < MIN ? 1 : 0, 1);
        check.due("moved up", y.place(799, 3), (int) up);
        check.due("width", y.place(799, 0), width);
    }

    private static void indexOfGlyphs(Check check) {
        Part values = Fonts.singles(Fonts.covers(0, 7, 8, 65535), 4, 4, 1, 2, 3, 4);
        GlyphPositions x = Fonts.loaded(Fonts.lookup(1, 0, values));
        Fonts.glyphs(x, 0, 7, 8, 65535, 1, 6, 9, 65534, 32768);
        widths(check, "form 1", x, 101, 102, 103, 104, 100, 100, 100, 100, 100);
        int[] glyphs = new int[256];
        int[] numbers = new int[256];
        for (int k = 0; k < 256; k++) {
            glyphs[k] = 3 * k;
            numbers[k] = k;
        }
        GlyphPositions y = Fonts.loaded(Fonts.lookup(1, 0,
                Fonts.singles(Fonts.covers(glyphs), 4, 256, numbers)));
        widths(check, "of 256", Fonts.glyphs(y, 0, 3, 381, 384, 762, 765, 764, 766, 768),
                100, 101, 227, 228, 354, 355, 100, 100, 100);
        GlyphPositions z = Fonts.loaded(Fonts.lookup(1, 0,
                Fonts.single(Part.of(1, 2, 5, 6, 7), 4, 1)));
        widths(check, "what stands behind n glyphs", Fonts.glyphs(z, 5, 6, 7), 101, 101, 100);
    }

    private static void indexOfRanges(Check check) {
        Part c = Fonts.coversRanges(0, 1, 0, 5, 5, 2, 7, 9, 3, 65534, 65535, 6);
        Part values = Fonts.singles(c, 4, 8, 1, 2, 3, 4, 5, 6, 7, 8);
        GlyphPositions x = Fonts.loaded(Fonts.lookup(1, 0, values));
        Fonts.glyphs(x, 0, 1, 2, 4, 5, 6, 7, 8, 9, 10, 65533, 65534, 65535);
        widths(check, "form 2", x,
                101, 102, 100, 100, 103, 100, 104, 105, 106, 100, 100, 107, 108);
        GlyphPositions z = Fonts.loaded(Fonts.lookup(1, 0,
                Fonts.single(Part.of(2, 1, 5, 6, 0, 7, 7, 2), 4, 1)));
        widths(check, "what stands behind n ranges", Fonts.glyphs(z, 5, 6, 7), 101, 101, 100);
    }

    /** First glyphs are 1 alone, of class 0; the second's class k makes it wider by k and 1. */
    private static GlyphPositions bySecond(Part classes) {
        Part pairs = Fonts.pairClasses(Fonts.covers(1), 4, 0, Fonts.classes(0), classes)
                .u16(1, 4).u16(1, 2, 3, 4);
        return Fonts.loaded(Fonts.lookup(2, 0, pairs));
    }

    private static void secondClass(Check check, Part classes, int glyph, int due) {
        GlyphPositions x = Fonts.glyphs(bySecond(classes), 1, glyph);
        x.set(false);
        check.due("class of " + glyph, x.place(0, 0) - 101, due);
    }

    private static void classesFromFirstOn(Check check) {
        Part middle = Fonts.classes(10, 3, 0, 2);
        int[][] due = {{9, 0}, {10, 3}, {11, 0}, {12, 2}, {13, 0}, {0, 0}, {65535, 0}};
        for (int[] d : due) {
            secondClass(check, middle, d[0], d[1]);
        }
        secondClass(check, Fonts.classes(0, 3), 0, 3);
        secondClass(check, Fonts.classes(0, 3), 2, 0);
        secondClass(check, Fonts.classes(65534, 3, 2), 65534, 3);
        secondClass(check, Fonts.classes(65534, 3, 2), 65535, 2);
        secondClass(check, Fonts.classes(65534, 3, 2), 65533, 0);
        Part behind = Part.of(1, 10, 2, 3, 2, 1, 1, 1);
        int[][] dueBehind = {{10, 3}, {11, 2}, {12, 0}, {13, 0}, {14, 0}};
        for (int[] d : dueBehind) {
            secondClass(check, behind, d[0], d[1]);
        }
    }

    private static void othersHaveClassZero(Check check) {
        Part ranges = Fonts.classRanges(10, 12, 3, 13, 13, 1, 20, 20, 2, 65535, 65535, 3);
        int[][] due = {{0, 0}, {9, 0}, {10, 3}, {11, 3}, {12, 3}, {13, 1}, {14, 0}, {19, 0},
            {20, 2}, {21, 0}, {65534, 0}, {65535, 3}};
        for (int[] d : due) {
            secondClass(check, ranges, d[0], d[1]);
        }
        secondClass(check, Part.of(2, 1, 10, 10, 3, 11, 11, 2), 10, 3);
        secondClass(check, Part.of(2, 1, 10, 10, 3, 11, 11, 2), 11, 0);
        secondClass(check, Fonts.classRanges(), 7, 0);
        secondClass(check, Fonts.classes(7), 7, 0);
        secondClass(check, Fonts.classRanges(0, 65535, 2), 0, 2);
        secondClass(check, Fonts.classRanges(0, 65535, 2), 65535, 2);
    }

    /** The number for bit k is 1 + k, for the second 101 + k; those from bit 4 on do nothing. */
    private static int[] numbers(int bits, int from) {
        int[] numbers = new int[Integer.bitCount(bits)];
        int many = 0;
        for (int bit = 0; bit < 8; bit++) {
            if ((bits >> bit & 1) != 0) {
                numbers[many++] = from + bit;
            }
        }
        return numbers;
    }

    private static void dueNumbers(Check check, GlyphPositions x, int i, int bits, int from) {
        int[] due = new int[4];
        int[] order = {2, 3, 0, 1};
        for (int bit = 0; bit < 4; bit++) {
            due[order[bit]] = (bits >> bit & 1) != 0 ? from + bit : 0;
        }
        due[0] += 100;
        check.placed("bits " + bits, x, i, due);
    }

    private static void bitsOfValues(Check check) {
        Part c = Fonts.covers(1, 2);
        Part k = Fonts.classes(2, 1);
        for (int bits = 0; bits < 256; bits++) {
            int[] first = numbers(bits, 1);
            GlyphPositions x = Fonts.loaded(Fonts.lookup(1, 0, Fonts.single(c, bits, first)));
            Fonts.glyphs(x, 2).set(false);
            dueNumbers(check, x, 0, bits, 1);
            Part two = Fonts.singles(c, bits, 2, new int[first.length]).u16(first);
            GlyphPositions y = Fonts.loaded(Fonts.lookup(1, 0, two));
            Fonts.glyphs(y, 2).set(false);
            dueNumbers(check, y, 0, bits, 1);
            int others = bits * 7 + 5 & 255;
            int[] second = numbers(others, 101);
            Part row = Part.of(2, 1).u16(new int[first.length + second.length])
                    .u16(2).u16(first).u16(second);
            GlyphPositions z = Fonts.loaded(Fonts.lookup(2, 0,
                    Fonts.pairs(Fonts.covers(1), bits, others, row)));
            Fonts.glyphs(z, 1, 2).set(false);
            dueNumbers(check, z, 0, bits, 1);
            dueNumbers(check, z, 1, others, 101);
            Part classes = Fonts.pairClasses(Fonts.covers(1), bits, others, Fonts.classes(0), k)
                    .u16(1, 2).u16(new int[first.length + second.length]).u16(first).u16(second);
            GlyphPositions w = Fonts.loaded(Fonts.lookup(2, 0, classes));
            Fonts.glyphs(w, 1, 2).set(false);
            dueNumbers(check, w, 0, bits, 1);
            dueNumbers(check, w, 1, others, 101);
        }
    }

    private static void becomeMore(Check check) {
        Part more = Fonts.single(Fonts.covers(1), 15, 1, -2, 3, -4);
        Part less = Fonts.single(Fonts.covers(1), 15, -10, 20, -300, 40);
        GlyphPositions x = Fonts.loaded(Fonts.lookup(1, 0, more), Fonts.lookup(1, 0, more),
                Fonts.lookup(1, 0, less));
        Fonts.glyphs(x, 1, 2).set(false);
        check.placed("three times", x, 0, 106 - 300, 32, -8, 16, -8, NONE);
        check.placed("not this one", x, 1, 100, 0, 0, 0, -194, NONE);
    }

    private static void covered(Check check) {
        GlyphPositions x = Fonts.loaded(Fonts.wider(1, 5), Fonts.wider(2),
                Fonts.lookup(1, 0, Fonts.single(Fonts.coversRanges(5, 6, 0), 4, 4)),
                Fonts.lookup(1, 0, Fonts.single(Fonts.coversRanges(0, 65535, 0), 4, 8)));
        Fonts.glyphs(x, 4, 5, 6, 7, 0, 65535);
        widths(check, "covered", x, 108, 113, 112, 108, 108, 108);
    }

    private static void inItsRow(Check check) {
        Part pairs = Fonts.pairs(Fonts.covers(1, 2, 3), 4, 0,
                Part.of(4, 0, 10, 2, 20, 3, 30, 65535, 40), Part.of(0), Part.of(1, 1, 50));
        GlyphPositions x = Fonts.loaded(Fonts.lookup(2, 0, pairs));
        int[][] rows = {{1, 0, 110}, {1, 2, 120}, {1, 3, 130}, {1, 65535, 140}, {1, 1, 100},
            {1, 4, 100}, {1, 65534, 100}, {2, 0, 100}, {2, 1, 100}, {3, 1, 150}, {3, 2, 100},
            {3, 0, 100}, {4, 1, 100}, {0, 2, 100}};
        for (int[] row : rows) {
            x.clear();
            widths(check, row[0] + ", " + row[1], Fonts.glyphs(x, row[0], row[1]), row[2], 100);
        }
        x.clear();
        widths(check, "no NEXT", Fonts.glyphs(x, 2, 1), 100, 100);
        GlyphPositions z = Fonts.loaded(Fonts.lookup(2, 0,
                Fonts.pairs(Fonts.covers(1), 4, 0, Part.of(1, 2, 10, 3, 10))));
        widths(check, "what stands behind m glyphs", Fonts.glyphs(z, 1, 2, 1, 3),
                110, 100, 100, 100);
        Part wide = Part.of(256);
        for (int k = 0; k < 256; k++) {
            wide.u16(2 * k, k);
        }
        GlyphPositions y = Fonts.loaded(Fonts.lookup(2, 0,
                Fonts.pairs(Fonts.covers(1), 4, 0, wide)));
        for (int glyph : new int[] {0, 1, 2, 254, 255, 256, 508, 509, 510, 511, 512}) {
            y.clear();
            boolean there = glyph % 2 == 0 && glyph <= 510;
            widths(check, "row of 256, " + glyph, Fonts.glyphs(y, 1, glyph),
                    there ? 100 + glyph / 2 : 100, 100);
        }
    }

    /** Class k of the first and j of the second: wider by 10 k + j + 1, the second by 1000. */
    private static void classesBelow(Check check) {
        Part first = Fonts.classes(20, 0, 1, 2, 65535);
        Part second = Fonts.classes(30, 0, 1, 2, 3, 65535);
        for (int n = 0; n <= 3; n++) {
            for (int m = 0; m <= 3; m++) {
                Part pairs = Fonts.pairClasses(Fonts.coversRanges(20, 23, 0), 4, 4, first, second)
                        .u16(n, m);
                for (int k = 0; k < n * m; k++) {
                    pairs.u16(10 * (k / m) + k % m + 1, 1000);
                }
                dueClassesBelow(check, pairs, n, m);
            }
        }
    }

    private static void dueClassesBelow(Check check, Part pairs, int n, int m) {
        GlyphPositions x = Fonts.loaded(Fonts.lookup(2, 0, pairs));
        int[] classes = {0, 1, 2, 65535};
        for (int k = 0; k < 4; k++) {
            for (int j = 0; j < 5; j++) {
                int other = j == 4 ? 65535 : j;
                boolean below = classes[k] < n && other < m;
                x.clear();
                widths(check, n + " times " + m + ", classes " + classes[k] + ", " + other,
                        Fonts.glyphs(x, 20 + k, 30 + j),
                        below ? 100 + 10 * k + j + 1 : 100, below ? 1100 : 100);
            }
        }
    }

    private static void asTheyAreNow(Check check) {
        GlyphPositions x = byScripts(Fonts.tagged(new Part(), 5, Fonts.script(Fonts.language(0, 1)),
                Fonts.DFLT, Fonts.script(Fonts.language(2, 3))));
        widths(check, "DFLT", x, 104);
        x.feature(13, true);
        widths(check, "a feature on", x, 112);
        x.choose(5, 0);
        widths(check, "another script", x, 101);
        x.feature(11, true);
        widths(check, "its feature", x, 103);
        x.add(1, 7, 0);
        widths(check, "another glyph", x, 103, 10);
        x.feature(11, false);
        widths(check, "off again", x, 101, 8);
        GlyphPositions y = Fonts.loaded(Fonts.lookup(1, 8, Fonts.widening(1, 1)));
        widths(check, "no kinds", Fonts.glyphs(y, 1), 101);
        y.kind(1, 1, 3, 0);
        widths(check, "a mark", y, 100);
        y.forget();
        widths(check, "forgotten", y, 101);
    }

    private static void theyStayTold(Check check) {
        GlyphPositions x = Fonts.loaded(Fonts.wider(1, 1));
        check.due("set of none", x.set(false), 0);
        Fonts.glyphs(x, 1);
        check.due("set of one", x.set(false), 1);
        check.due("set again", x.set(true), 1);
        check.due("one more", x.add(1, 100, 0), 2);
        check.due("set of two", x.set(true), 2);
        check.due("clear()", x.clear(), 2);
        for (int k = 0; k < 800; k++) {
            x.add(1, 0, 0);
        }
        check.due("set of 800", x.set(true), 800);
        check.due("clear()", x.clear(), 800);
        check.due("set of none", x.set(true), 0);
    }

    private static void noTable(Check check) {
        GlyphPositions x = new GlyphPositions();
        check.refused("set(false)", STATE, () -> x.set(false));
        check.refused("set(true)", STATE, () -> x.set(true));
        byte[] font = Fonts.requiring(Fonts.wider(1, 1));
        Fonts.feed(x, font);
        Fonts.glyphs(x, 1);
        check.refused("fed, not loaded", STATE, () -> x.set(false));
        x.put(0, 1);
        check.due("load()", x.load(), GlyphPositions.HEAD);
        check.refused("not as said", STATE, () -> x.set(false));
        x.put(0, 0);
        check.due("load()", x.load(), 1);
        widths(check, "loaded", x, 101);
    }

    private static void runSetLast(Check check) {
        GlyphPositions x = Fonts.glyphs(Fonts.loaded(Fonts.wider(1, 1)), 1, 2);
        x.set(false);
        x.kind(1, 2, 3, 1);
        x.choose(9, 9);
        x.feature(1, true);
        x.add(1, 5, 0);
        check.placed("told since", x, 0, 101, 0, 0, 0, 0, NONE);
        check.refused("one told since", INDEX, () -> x.place(2, 0));
        x.clear();
        check.placed("cleared since", x, 1, 100, 0, 0, 0, 101, NONE);
        Fonts.feed(x, Fonts.requiring());
        check.due("load()", x.load(), 0);
        check.placed("loaded since", x, 0, 101, 0, 0, 0, 0, NONE);
        x.cut(0);
        check.due("load()", x.load(), GlyphPositions.HEAD);
        check.placed("not loaded since", x, 1, 100, 0, 0, 0, 101, NONE);
        x.add(1, 5, 0);
        check.due("set", x.set(false), 1);
        check.placed("set since", x, 0, 5, 0, 0, 0, 0, NONE);
        check.refused("it has one glyph", INDEX, () -> x.place(1, 0));
    }

    private static void whatIsAsked(Check check) {
        Part each = Fonts.singles(Fonts.covers(50, 60), 15, 2, 1, 2, 3, 4, -10, -20, -30, -40);
        Part on = Fonts.marksOn(Fonts.covers(60), Fonts.covers(50), 1,
                Fonts.marks(0, Fonts.anchor(0, 0)), Fonts.bases(1, Fonts.anchor(0, 0)));
        GlyphPositions x = Fonts.loaded(Fonts.lookup(4, 0, on), Fonts.lookup(1, 0, each));
        x.kind(60, 60, 3, 0);
        Fonts.glyphs(x, 7, 50, 60, 8).set(false);
        check.placed("first", x, 0, 100, 0, 0, 0, 0, NONE);
        check.placed("base", x, 1, 103, 4, 1, 2, 101, NONE);
        check.placed("mark", x, 2, 70, -40, -10 + 1 - 103, -20 + 2 - 4, 203 - 112, 1);
        check.placed("last", x, 3, 100, 0, 0, 0, 273, NONE);
    }

    private static void noSuchGlyph(Check check) {
        GlyphPositions x = Fonts.loaded(Fonts.wider(1, 1));
        check.refused("nothing was set", INDEX, () -> x.place(0, 0));
        Fonts.glyphs(x, 1, 1);
        check.refused("told, but not set", INDEX, () -> x.place(0, 0));
        x.set(false);
        for (int i : new int[] {-1, 2, 799, 800, MIN, MAX}) {
            for (int what = -1; what <= 6; what++) {
                int asked = what;
                check.refused("place(" + i + ", " + what + ")", INDEX, () -> x.place(i, asked));
            }
        }
        check.due("the last one", x.place(1, 0), 101);
        x.clear();
        x.set(false);
        check.refused("set of none", INDEX, () -> x.place(0, 0));
    }

    private static void noSuchQuestion(Check check) {
        GlyphPositions x = Fonts.glyphs(Fonts.loaded(Fonts.wider(1, 1)), 1, 1);
        x.set(false);
        for (int what : new int[] {-1, 6, 7, 256, MIN, MAX}) {
            for (int i = 0; i < 2; i++) {
                int glyph = i;
                check.refused("place(" + i + ", " + what + ")", INDEX, () -> x.place(glyph, what));
            }
        }
        check.placed("from 0 to 5", x, 1, 101, 0, 0, 0, 101, NONE);
    }
}
