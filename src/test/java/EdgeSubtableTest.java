import java.util.Arrays;

/** The boundary cases of what stands in subtables, as LOADING finds it. */
public final class EdgeSubtableTest {
    private static final int LOOKUPS = GlyphPositions.LOOKUPS;

    /** Forms beside those that are as said, the neighbours first. */
    private static final int[] FORMS = {0, 1, 2, 3, 4, 256, 257, 65535};

    public static void main(String[] args) {
        Sentences all = new Sentences("EdgeSubtableTest");
        all.test("A PLACE (U16 if nothing else is said) counts from the beginning of the part in "
                + "which it stands, as said in front of it;", EdgeSubtableTest::neverBack);
        all.test("All that is read must lie in the table.", EdgeSubtableTest::allMustLie);
        all.test("COVERAGE, form 1: U16 n, n glyphs, rising:", EdgeSubtableTest::glyphsRise);
        all.test("Form 2: U16 n, n times U16 first, last, INDEX of the first: "
                + "first not above last, all rising,", EdgeSubtableTest::rangesRise);
        all.test("and the indices go on from 0 without a gap.", EdgeSubtableTest::indicesGoOn);
        all.test("CLASSES, form 1: U16 first, U16 n, n classes of the glyphs from first on "
                + "(up to 65535);", EdgeSubtableTest::classesUpTo65535);
        all.test("form 2: U16 n, n times U16 first, last, class, rising as there.",
                EdgeSubtableTest::classRangesRise);
        all.test("A VALUE by a U16 of bits (none above bit 7):", EdgeSubtableTest::bitsUpTo7);
        all.test("An ANCHOR: U16 form 1 .. 3, S16 x, S16 y", EdgeSubtableTest::anchorForms);
        all.test("(what forms 2 and 3 have besides is not looked at)",
                EdgeSubtableTest::anchorsEndBehindY);
        all.test("TYPE 1, form 1: place of COVERAGE, U16 bits, a VALUE for all;",
                EdgeSubtableTest::oneValueForAll);
        all.test("form 2: COVERAGE, bits, U16 n (how many are covered), n VALUES by INDEX:",
                EdgeSubtableTest::asManyValues);
        all.test("TYPE 2, form 1: COVERAGE, bits, bits of the second, "
                + "U16 n (how many are covered),", EdgeSubtableTest::asManyRows);
        all.test("n places by INDEX of: U16 m, m times a glyph (rising) and a VALUE for the "
                + "first, one for the second.", EdgeSubtableTest::rowsRise);
        all.test("Form 2: COVERAGE, bits, bits, two places of CLASSES (of the first, of the "
                + "second), U16 n, U16 m, n times m such two VALUES.",
                EdgeSubtableTest::valuesByClasses);
        all.test("TYPE 3, form 1: COVERAGE, U16 n (how many are covered), n times two places "
                + "(0 for none) of ANCHORS by INDEX: ENTRY and EXIT.",
                EdgeSubtableTest::asManyEntriesAndExits);
        all.test("TYPE 4, form 1: places of two COVERAGES, of marks and of bases, U16 c, place of "
                + "the MARKS, place of the BASES.", EdgeSubtableTest::fourPlaces);
        all.test("MARKS: U16 n (how many marks are covered),", EdgeSubtableTest::asManyMarks);
        all.test("n times U16 a class below c, place (from the MARKS) of an ANCHOR.",
                EdgeSubtableTest::classBelowC);
        all.test("BASES: U16 n (how many bases are covered), n times c places "
                + "(from the BASES; 0 for none) of ANCHORS.", EdgeSubtableTest::asManyBases);
        all.test("TYPE 6 the same, with marks for bases.", EdgeSubtableTest::typeSix);
        all.test("TYPE 5: BASES has n places of: U16 p, at least 1, p times c places "
                + "(from there; 0 for none): the parts of a ligature.",
                EdgeSubtableTest::ligatures);
        all.end();
    }

    private static void due(Check check, String name, int type, Part subtable, boolean asSaid) {
        int due = asSaid ? 1 : LOOKUPS;
        String full = "TYPE " + type + ": " + name;
        check.due(full, Tables.load(Tables.withSubtable(type, subtable)), due);
        check.due(full + " (by TYPE 9)",
                Tables.load(Tables.withLookups(Fonts.far(type, 0, subtable))), due);
    }

    private static final Part ANCHOR = Fonts.anchor(1, 2);

    /** As many as that: marks of class 0, with one ANCHOR. */
    private static Part marks(int many) {
        Part marks = Part.of(many);
        for (int k = 0; k < many; k++) {
            marks.u16(0).to(ANCHOR);
        }
        return marks;
    }

    private static Part[] same(Part part, int many) {
        Part[] parts = new Part[many];
        Arrays.fill(parts, part);
        return parts;
    }

    /** The COVERAGE, which covers so many, wherever one stands. */
    private static void dueCoverage(Check check, String name, Part c, int covered, boolean asSaid) {
        Part k = Fonts.classes(0);
        due(check, name, 1, Fonts.single(c, 0), asSaid);
        due(check, name, 2, Fonts.pairClasses(c, 0, 0, k, k).u16(0, 0), asSaid);
        if (covered > 256) {
            return;
        }
        due(check, name, 1, Fonts.singles(c, 0, covered), asSaid);
        due(check, name, 2, Fonts.pairs(c, 0, 0, same(Tables.none(), covered)), asSaid);
        due(check, name, 3, Fonts.cursive(c, new Part[2 * covered]), asSaid);
        Part no = Fonts.covers();
        Part bases = Fonts.bases(covered, new Part[covered]);
        Part ligatures = Part.of(covered).to(same(Part.of(1, 0), covered));
        for (int type = 4; type <= 6; type++) {
            due(check, name + " of marks", type,
                    Fonts.marksOn(c, no, 1, marks(covered), Tables.none()), asSaid);
            due(check, name + " of bases", type,
                    Fonts.marksOn(no, c, 1, marks(0), type == 5 ? ligatures : bases), asSaid);
        }
    }

    private static void needed(Check check, String part, int type, Part subtable, Part last) {
        Tables.needed(check, part, Tables.withSubtable(type, subtable), last, LOOKUPS);
        Tables.needed(check, part + " by TYPE 9",
                Tables.withLookups(Fonts.far(type, 0, subtable)), last, LOOKUPS);
    }

    private static void back(Check check, String part, int type, Part subtable, Part early) {
        Tables.neverBack(check, "TYPE " + type + ": " + part,
                Tables.withSubtable(type, subtable), early, LOOKUPS);
    }

    private static void neverBack(Check check) {
        Part c = Fonts.covers(1);
        back(check, "COVERAGE", 1, Fonts.single(c, 0), c);
        back(check, "COVERAGE, form 2", 1, Fonts.singles(c, 0, 1), c);
        Part row = Part.of(0);
        back(check, "COVERAGE", 2, Fonts.pairs(c, 0, 0, row), c);
        back(check, "a row", 2, Fonts.pairs(c, 0, 0, row), row);
        Part first = Fonts.classes(0);
        Part second = Fonts.classRanges();
        Part pairs = Fonts.pairClasses(c, 0, 0, first, second).u16(1, 1);
        back(check, "COVERAGE, form 2", 2, pairs, c);
        back(check, "CLASSES of the first", 2, pairs, first);
        back(check, "CLASSES of the second", 2, pairs, second);
        Part entry = Fonts.anchor(1, 2);
        Part exit = Fonts.anchor(3, 4);
        back(check, "COVERAGE", 3, Fonts.cursive(c, entry, exit), c);
        back(check, "ENTRY", 3, Fonts.cursive(c, entry, exit), entry);
        back(check, "EXIT", 3, Fonts.cursive(c, entry, exit), exit);
        for (int type = 4; type <= 6; type++) {
            Part own = Fonts.anchor(1, 2);
            Part other = Fonts.anchor(3, 4);
            Part ofBases = Fonts.covers(2);
            Part marks = Part.of(1, 0).to(own);
            Part ligature = Part.of(1).to(other);
            Part bases = type == 5 ? Part.of(1).to(ligature) : Fonts.bases(1, other);
            Part subtable = Fonts.marksOn(c, ofBases, 1, marks, bases);
            back(check, "COVERAGE of marks", type, subtable, c);
            back(check, "COVERAGE of bases", type, subtable, ofBases);
            back(check, "MARKS", type, subtable, marks);
            back(check, "BASES", type, subtable, bases);
            back(check, "ANCHOR of a mark", type, subtable, own);
            back(check, "ANCHOR of a base", type, subtable, other);
            if (type == 5) {
                back(check, "a ligature", type, subtable, ligature);
            }
        }
    }

    private static void allMustLie(Check check) {
        Part no = Fonts.covers();
        Part k = Fonts.classes(0);
        for (Part c : new Part[] {Fonts.covers(), Fonts.covers(3, 4),
            Fonts.coversRanges(), Fonts.coversRanges(3, 4, 0),
            Fonts.coversRanges(3, 3, 0, 4, 4, 1)}) {
            int many = c.size() > 4 ? 2 : 0;
            needed(check, "COVERAGE", 1, Fonts.single(c, 0), c);
            needed(check, "COVERAGE", 1, Fonts.singles(c, 0, many), c);
            needed(check, "COVERAGE", 2, Fonts.pairs(c, 0, 0, same(Tables.none(), many)), c);
            needed(check, "COVERAGE", 3, Fonts.cursive(c, new Part[2 * many]), c);
            for (int type = 4; type <= 6; type += 2) {
                needed(check, "COVERAGE of marks", type,
                        Fonts.marksOn(c, no, 1, marks(many), Tables.none()), c);
                needed(check, "COVERAGE of bases", type,
                        Fonts.marksOn(no, c, 1, marks(0), Fonts.bases(many, new Part[many])), c);
            }
        }
        for (Part classes : new Part[] {Fonts.classes(7), Fonts.classes(7, 1, 2),
            Fonts.classRanges(), Fonts.classRanges(1, 1, 0, 2, 5, 1)}) {
            needed(check, "CLASSES of the first", 2,
                    Fonts.pairClasses(no, 0, 0, classes, k).u16(1, 1), classes);
            needed(check, "CLASSES of the second", 2,
                    Fonts.pairClasses(no, 0, 0, k, classes).u16(1, 1), classes);
        }
        beginningsMustLie(check);
        valuesMustLie(check);
        anchorsMustLie(check);
    }

    /** In these the COVERAGE and the CLASSES are 2, 0 (none at all), in what is said anyway. */
    private static void beginningsMustLie(Check check) {
        Part single = Part.of(1, 2, 0);
        needed(check, "form 1", 1, single, single);
        Part singles = Part.of(2, 4, 2, 0);
        needed(check, "form 2", 1, singles, singles);
        Part pairs = Part.of(1, 4, 2, 0, 0);
        needed(check, "form 1", 2, pairs, pairs);
        Part classes = Part.of(2, 4, 2, 0, 4, 4, 0, 0);
        needed(check, "form 2", 2, classes, classes);
        Part cursive = Part.of(1, 2, 0);
        needed(check, "form 1", 3, cursive, cursive);
    }

    /** In these the COVERAGE and the CLASSES stand in the VALUES, so that nothing is behind. */
    private static void valuesMustLie(Check check) {
        Part single = Part.of(1, 6, 255, 1, 1, 42, 0, 0, 0, 0, 0);
        needed(check, "a VALUE for all", 1, single, single);
        Part singles = Part.of(2, 8, 0x87, 2, 1, 2, 42, 43, 0, 0, 0, 0);
        needed(check, "VALUES by INDEX", 1, singles, singles);
        Part classes = Part.of(2, 16, 255, 3, 20, 20, 1, 1, 1, 0, 2, 0, 0, 0, 0, 0, 0, 0);
        needed(check, "VALUES by CLASSES", 2, classes, classes);
        // Its COVERAGE stands at 4; the rows at 0, but for one at 13, which is empty.
        Part pairs = Part.of(1, 4, 2, 1, 7, 13, 0, 0, 0, 0, 0, 0);
        needed(check, "places of rows", 2, pairs, pairs);
        Part row = Part.of(2, 7, 1, 2, 3, 8, 4, 5, 6);
        needed(check, "a row", 2, Fonts.pairs(Fonts.covers(1), 5, 2, row), row);
        Part empty = Tables.none();
        needed(check, "an empty row", 2, Fonts.pairs(Fonts.covers(1), 5, 2, empty), empty);
    }

    private static void anchorsMustLie(Check check) {
        Part no = Fonts.covers();
        Part one = Fonts.covers(1);
        for (int form = 1; form <= 3; form++) {
            Part a = Part.of(form, 5, 6);
            needed(check, "ENTRY", 3, Fonts.cursive(one, a, null), a);
            needed(check, "EXIT", 3, Fonts.cursive(one, null, a), a);
            Part marks = Part.of(1, 0).to(a);
            needed(check, "of a mark", 4, Fonts.marksOn(one, no, 1, marks, Tables.none()), a);
            needed(check, "of a base", 6,
                    Fonts.marksOn(no, one, 1, marks(0), Fonts.bases(1, a)), a);
            needed(check, "of a part", 5,
                    Fonts.marksOn(no, one, 1, marks(0), Part.of(1).to(Part.of(1).to(a))), a);
        }
        // The ANCHOR of both marks stands in the MARKS themselves, at 2.
        Part marks = Part.of(2, 1, 2, 0, 2);
        needed(check, "MARKS", 4,
                Fonts.marksOn(Fonts.covers(1, 2), no, 2, marks, Tables.none()), marks);
        Part bases = Part.of(1, 0, 0);
        needed(check, "BASES", 4, Fonts.marksOn(no, one, 2, marks(0), bases), bases);
        Part ligature = Part.of(2, 0, 0, 0, 0);
        needed(check, "a ligature", 5,
                Fonts.marksOn(no, one, 2, marks(0), Part.of(1).to(ligature)), ligature);
        // Without classes a ligature is just how many parts it has: here 2, three times.
        Part ligatures = Part.of(3, 2, 2, 2);
        needed(check, "places of ligatures", 5,
                Fonts.marksOn(no, Fonts.covers(1, 2, 3), 0, marks(0), ligatures), ligatures);
    }

    private static void glyphsRise(Check check) {
        int[][] rising = {{}, {0}, {65535}, {0, 1}, {0, 65535}, {32767, 32768}, {65534, 65535},
            {1, 2, 3, 4}};
        for (int[] glyphs : rising) {
            dueCoverage(check, "glyphs " + Arrays.toString(glyphs), Fonts.covers(glyphs),
                    glyphs.length, true);
        }
        int[][] not = {{0, 0}, {65535, 65535}, {1, 0}, {65535, 0}, {32768, 32767}, {1, 2, 3, 3},
            {1, 3, 2, 4}};
        for (int[] glyphs : not) {
            dueCoverage(check, "glyphs " + Arrays.toString(glyphs), Fonts.covers(glyphs),
                    glyphs.length, false);
        }
        for (int form : FORMS) {
            dueCoverage(check, "form " + form, Part.of(form, 0), 0, form == 1 || form == 2);
        }
    }

    private static void rangesRise(Check check) {
        dueCoverage(check, "no range", Fonts.coversRanges(), 0, true);
        dueCoverage(check, "one glyph", Fonts.coversRanges(0, 0, 0), 1, true);
        dueCoverage(check, "the last one", Fonts.coversRanges(65535, 65535, 0), 1, true);
        dueCoverage(check, "all glyphs", Fonts.coversRanges(0, 65535, 0), 65536, true);
        dueCoverage(check, "one behind the other", Fonts.coversRanges(1, 3, 0, 4, 4, 3), 4, true);
        dueCoverage(check, "past 32767", Fonts.coversRanges(32767, 32768, 0, 65535, 65535, 2),
                3, true);
        dueCoverage(check, "first above last", Fonts.coversRanges(4, 3, 0), 0, false);
        dueCoverage(check, "far above", Fonts.coversRanges(65535, 0, 0), 0, false);
        dueCoverage(check, "above in the second", Fonts.coversRanges(1, 2, 0, 5, 4, 2), 2, false);
        dueCoverage(check, "begins with the last", Fonts.coversRanges(1, 3, 0, 3, 4, 3), 5, false);
        dueCoverage(check, "the same again", Fonts.coversRanges(3, 3, 0, 3, 3, 1), 2, false);
        dueCoverage(check, "falling", Fonts.coversRanges(5, 6, 0, 1, 2, 2), 4, false);
        dueCoverage(check, "falling at last",
                Fonts.coversRanges(1, 1, 0, 5, 6, 1, 4, 4, 3), 4, false);
    }

    private static void indicesGoOn(Check check) {
        dueCoverage(check, "without a gap", Fonts.coversRanges(1, 3, 0, 9, 9, 3, 20, 20, 4),
                5, true);
        dueCoverage(check, "from 1 on", Fonts.coversRanges(1, 3, 1), 3, false);
        dueCoverage(check, "from 65535 on", Fonts.coversRanges(1, 1, 65535), 1, false);
        dueCoverage(check, "a gap", Fonts.coversRanges(1, 3, 0, 9, 9, 4), 4, false);
        dueCoverage(check, "one twice", Fonts.coversRanges(1, 3, 0, 9, 9, 2), 4, false);
        dueCoverage(check, "from 0 again", Fonts.coversRanges(1, 3, 0, 9, 9, 0), 4, false);
        dueCoverage(check, "a gap at last", Fonts.coversRanges(1, 1, 0, 2, 2, 1, 3, 3, 3),
                3, false);
        int[] many = new int[36];
        for (int k = 0; k < 12; k++) {
            Arrays.fill(many, 3 * k, 3 * k + 2, 5 * k);
            many[3 * k + 2] = k;
        }
        dueCoverage(check, "twelve ranges", Fonts.coversRanges(many), 12, true);
        many[35] = 12;
        dueCoverage(check, "a gap before the twelfth", Fonts.coversRanges(many), 12, false);
        dueCoverage(check, "65535 behind 65535 of them",
                Fonts.coversRanges(0, 65534, 0, 65535, 65535, 65535), 65536, true);
    }

    /** The CLASSES of the first and of the second. */
    private static void dueClasses(Check check, String name, Part classes, boolean asSaid) {
        Part c = Fonts.covers(1);
        Part good = Fonts.classes(0);
        due(check, name + " (first)", 2,
                Fonts.pairClasses(c, 0, 0, classes, good).u16(1, 1), asSaid);
        due(check, name + " (second)", 2,
                Fonts.pairClasses(c, 0, 0, good, classes).u16(1, 1), asSaid);
    }

    private static void classesUpTo65535(Check check) {
        dueClasses(check, "none", Fonts.classes(0), true);
        dueClasses(check, "none from 65535 on", Fonts.classes(65535), true);
        dueClasses(check, "of 0", Fonts.classes(0, 1), true);
        dueClasses(check, "of 65535", Fonts.classes(65535, 1), true);
        dueClasses(check, "of 65536", Fonts.classes(65535, 1, 1), false);
        dueClasses(check, "up to 65535", Fonts.classes(65533, 1, 2, 3), true);
        dueClasses(check, "up to 65536", Fonts.classes(65533, 1, 2, 3, 4), false);
        dueClasses(check, "any class", Fonts.classes(5, 0, 65535, 32768, 0), true);
        for (int form : FORMS) {
            dueClasses(check, "form " + form, Part.of(form, 0, 0), form == 1 || form == 2);
        }
    }

    private static void classRangesRise(Check check) {
        dueClasses(check, "no range", Fonts.classRanges(), true);
        dueClasses(check, "all glyphs", Fonts.classRanges(0, 65535, 65535), true);
        dueClasses(check, "one glyph", Fonts.classRanges(65535, 65535, 0), true);
        dueClasses(check, "one behind the other",
                Fonts.classRanges(0, 4, 9, 5, 5, 9, 6, 65535, 0), true);
        dueClasses(check, "past 32767", Fonts.classRanges(32767, 32767, 1, 32768, 40000, 1), true);
        dueClasses(check, "first above last", Fonts.classRanges(5, 4, 1), false);
        dueClasses(check, "above in the second", Fonts.classRanges(1, 2, 1, 5, 4, 1), false);
        dueClasses(check, "begins with the last", Fonts.classRanges(1, 3, 1, 3, 4, 1), false);
        dueClasses(check, "the same again", Fonts.classRanges(3, 3, 1, 3, 3, 1), false);
        dueClasses(check, "falling", Fonts.classRanges(5, 6, 1, 1, 2, 1), false);
        dueClasses(check, "falling at last", Fonts.classRanges(1, 1, 1, 5, 6, 1, 4, 4, 1), false);
    }

    private static void bitsUpTo7(Check check) {
        Part c = Fonts.covers(1);
        Part k = Fonts.classes(0);
        int[] numbers = new int[18];
        for (int bit = 0; bit < 16; bit++) {
            int bits = 1 << bit;
            boolean asSaid = bit <= 7;
            due(check, "bit " + bit, 1, Fonts.single(c, bits, numbers), asSaid);
            due(check, "form 2, bit " + bit, 1, Fonts.singles(c, bits, 1, numbers), asSaid);
            Part row = Part.of(1, 7).u16(numbers);
            due(check, "bit " + bit, 2, Fonts.pairs(c, bits, 0, row), asSaid);
            due(check, "second's bit " + bit, 2, Fonts.pairs(c, 0, bits, row), asSaid);
            due(check, "form 2, bit " + bit, 2,
                    Fonts.pairClasses(c, bits, 0, k, k).u16(1, 1).u16(numbers), asSaid);
            due(check, "form 2, second's bit " + bit, 2,
                    Fonts.pairClasses(c, 0, bits, k, k).u16(1, 1).u16(numbers), asSaid);
        }
        due(check, "bits 0 to 7", 1, Fonts.single(c, 255, new int[8]), true);
        due(check, "all bits", 1, Fonts.single(c, 65535, numbers), false);
    }

    /** An ANCHOR wherever one stands. */
    private static void dueAnchor(Check check, String name, Part a, boolean asSaid) {
        Part no = Fonts.covers();
        Part one = Fonts.covers(1);
        due(check, "ENTRY " + name, 3, Fonts.cursive(one, a, null), asSaid);
        due(check, "EXIT " + name, 3, Fonts.cursive(one, null, a), asSaid);
        Part ligatures = Part.of(1).to(Part.of(2).to(null, a));
        for (int type = 4; type <= 6; type++) {
            due(check, "of a mark, " + name, type,
                    Fonts.marksOn(one, no, 1, Part.of(1, 0).to(a), Tables.none()), asSaid);
            due(check, "of a base, " + name, type, Fonts.marksOn(no, one, 1, marks(0),
                    type == 5 ? ligatures : Fonts.bases(1, a)), asSaid);
        }
    }

    private static void anchorForms(Check check) {
        for (int form : FORMS) {
            dueAnchor(check, "form " + form, Part.of(form, 1, 2), form >= 1 && form <= 3);
        }
        dueAnchor(check, "the least", Part.of(1, 0x8000, 0x8000), true);
        dueAnchor(check, "the greatest", Part.of(1, 0x7fff, 0x7fff), true);
    }

    private static void anchorsEndBehindY(Check check) {
        for (int form = 1; form <= 3; form++) {
            Part a = Part.of(form, 1, 2);
            byte[] table = Tables.withSubtable(3, Fonts.cursive(Fonts.covers(1), a, a))
                    .bytesEndingWith(a);
            check.due("form " + form + " at the end", Tables.load(table), 1);
            dueAnchor(check, "form " + form + " and more", Part.of(form, 1, 2, 65535, 65535), true);
        }
    }

    private static void oneValueForAll(Check check) {
        for (int many : new int[] {0, 1, 2}) {
            Part c = Fonts.covers(Arrays.copyOf(new int[] {4, 5}, many));
            due(check, many + " covered", 1, Fonts.single(c, 4, 9), true);
        }
        due(check, "without bits", 1, Fonts.single(Fonts.covers(1), 0), true);
        due(check, "COVERAGE outside", 1, Part.of(1, 9000, 0), false);
    }

    /** So many are said, by a COVERAGE of two. */
    private static final Part TWO = Fonts.coversRanges(7, 8, 0);

    private static void asManyValues(Check check) {
        for (int n = 0; n <= 4; n++) {
            due(check, n + " for 2", 1, Fonts.singles(TWO, 4, n, new int[n]), n == 2);
            due(check, n + " for 2, without bits", 1, Fonts.singles(TWO, 0, n), n == 2);
            due(check, n + " for 0", 1, Fonts.singles(Fonts.covers(), 4, n, new int[n]), n == 0);
        }
    }

    private static void asManyRows(Check check) {
        Part row = Part.of(1, 5, 6);
        for (int n = 0; n <= 4; n++) {
            due(check, n + " for 2", 2, Fonts.pairs(TWO, 4, 0, same(row, n)), n == 2);
            due(check, n + " for 0", 2, Fonts.pairs(Fonts.covers(), 4, 0, same(row, n)), n == 0);
        }
        due(check, "a row outside", 2, Part.of(1).to(TWO).u16(0, 0, 2).to(row).u16(9000), false);
    }

    private static void rowsRise(Check check) {
        int[][] rows = {{0}, {1, 0}, {1, 65535}, {2, 0, 65535}, {2, 32767, 32768}, {3, 1, 2, 3}};
        int[][] not = {{2, 0, 0}, {2, 65535, 65535}, {2, 1, 0}, {2, 65535, 0}, {2, 32768, 32767},
            {3, 1, 2, 2}, {3, 1, 3, 2}};
        for (int[] row : rows) {
            dueRow(check, row, true);
        }
        for (int[] row : not) {
            dueRow(check, row, false);
        }
    }

    /** With VALUES of different sizes between the glyphs, whose numbers fall. */
    private static void dueRow(Check check, int[] row, boolean asSaid) {
        int[][] bits = {{0, 0}, {1, 0}, {0, 4}, {255, 3}};
        for (int[] b : bits) {
            Part part = Part.of(row[0]);
            for (int k = 1; k < row.length; k++) {
                part.u16(row[k]);
                for (int v = Integer.bitCount(b[0]) + Integer.bitCount(b[1]); v > 0; v--) {
                    part.u16(1000 * v - k);
                }
            }
            String name = Arrays.toString(row) + " by bits " + b[0] + ", " + b[1];
            Part good = Tables.none();
            due(check, "first row " + name, 2, Fonts.pairs(TWO, b[0], b[1], part, good), asSaid);
            due(check, "last row " + name, 2, Fonts.pairs(TWO, b[0], b[1], good, part), asSaid);
        }
    }

    private static void valuesByClasses(Check check) {
        Part k = Fonts.classes(7, 3, 4);
        int[][] sizes = {{0, 0}, {0, 5}, {5, 0}, {1, 1}, {2, 3}, {3, 2}};
        for (int[] s : sizes) {
            Part exact = Fonts.pairClasses(TWO, 1, 6, k, k).u16(s[0], s[1])
                    .u16(new int[3 * s[0] * s[1]]);
            due(check, s[0] + " times " + s[1], 2, exact, true);
        }
        Part nowhere = Part.of(2).to(TWO).u16(0, 0).u16(9000).to(k).u16(0, 0);
        due(check, "CLASSES of the first outside", 2, nowhere, false);
        nowhere = Part.of(2).to(TWO).u16(0, 0).to(k).u16(9000).u16(0, 0);
        due(check, "CLASSES of the second outside", 2, nowhere, false);
        // COVERAGE and CLASSES stand in the first VALUES; n times m of two numbers are due.
        int[][] ends = {{3, 2, 12, 1}, {3, 2, 11, 0}, {2, 3, 12, 1}, {2, 3, 11, 0},
            {1, 2, 4, 1}, {1, 2, 3, 0}, {256, 256, 4000, 0}};
        for (int[] e : ends) {
            Part part = Part.of(2, 16, 1, 4, 20, 20, e[0], e[1], 1, 0, 2).u16(new int[e[2] - 3]);
            due(check, e[0] + " times " + e[1] + " in " + e[2], 2, part, e[3] == 1);
        }
    }

    private static void asManyEntriesAndExits(Check check) {
        for (int n = 0; n <= 4; n++) {
            due(check, n + " for 2", 3, Fonts.cursive(TWO, same(ANCHOR, 2 * n)), n == 2);
            due(check, n + " for 2, all 0", 3, Fonts.cursive(TWO, new Part[2 * n]), n == 2);
            due(check, n + " for 0", 3, Fonts.cursive(Fonts.covers(), new Part[2 * n]), n == 0);
        }
        for (int k = 0; k < 4; k++) {
            int[] places = new int[4];
            places[k] = 9000;
            due(check, "outside " + k, 3, Part.of(1).to(TWO).u16(2).u16(places), false);
        }
    }

    /** One covered mark and two covered bases: where one stands for the other, n is another one. */
    private static void fourPlaces(Check check) {
        Part one = Fonts.covers(1);
        Part bases = Fonts.bases(2, new Part[2]);
        for (int type = 4; type <= 6; type += 2) {
            due(check, "as said", type, Fonts.marksOn(one, TWO, 1, marks(1), bases), true);
            due(check, "COVERAGES changed", type,
                    Fonts.marksOn(TWO, one, 1, marks(1), bases), false);
            due(check, "MARKS and BASES changed", type,
                    Fonts.marksOn(one, TWO, 1, bases, marks(1)), false);
            for (int k = 0; k < 4; k++) {
                Part[] parts = {one, TWO, marks(1), bases};
                Part part = Part.of(1);
                for (int j = 0; j < 4; j++) {
                    part.u16(j == 2 ? new int[] {1} : new int[0]);
                    if (j == k) {
                        part.u16(9000);
                    } else {
                        part.to(parts[j]);
                    }
                }
                due(check, "outside " + k, type, part, false);
            }
        }
    }

    private static void asManyMarks(Check check) {
        for (int type = 4; type <= 6; type++) {
            Part no = Fonts.covers();
            for (int n = 0; n <= 4; n++) {
                due(check, n + " for 2", type,
                        Fonts.marksOn(TWO, no, 1, marks(n), Tables.none()), n == 2);
                due(check, n + " for 0", type,
                        Fonts.marksOn(no, no, 1, marks(n), Tables.none()), n == 0);
            }
            due(check, "MARKS outside", type,
                    Part.of(1).to(no, no).u16(1).u16(9000).to(Tables.none()), false);
        }
    }

    private static void classBelowC(Check check) {
        for (int type = 4; type <= 6; type++) {
            Part no = Fonts.covers();
            for (int c : new int[] {0, 1, 2, 16}) {
                for (int k : new int[] {0, 1, 2, 15, 16, 17, 32768, 65535}) {
                    Part last = Part.of(2, 0).to(ANCHOR).u16(k).to(ANCHOR);
                    Part first = Part.of(2, k).to(ANCHOR).u16(0).to(ANCHOR);
                    String name = "class " + k + " of " + c;
                    due(check, name, type,
                            Fonts.marksOn(TWO, no, c, last, Tables.none()), k < c);
                    due(check, name + " first", type,
                            Fonts.marksOn(TWO, no, c, first, Tables.none()), k < c);
                }
            }
            due(check, "no class, no mark", type,
                    Fonts.marksOn(no, no, 0, marks(0), Tables.none()), true);
            due(check, "ANCHOR outside", type,
                    Fonts.marksOn(TWO, no, 1, Part.of(2, 0).to(ANCHOR).u16(0, 9000),
                            Tables.none()), false);
        }
    }

    private static void asManyBases(Check check) {
        basesOf(check, 4);
    }

    private static void typeSix(Check check) {
        basesOf(check, 6);
    }

    private static void basesOf(Check check, int type) {
        Part no = Fonts.covers();
        for (int c : new int[] {0, 1, 3}) {
            for (int n = 0; n <= 4; n++) {
                due(check, n + " for 2, c is " + c, type, Fonts.marksOn(no, TWO, c, marks(0),
                        Fonts.bases(n, same(ANCHOR, n * c))), n == 2);
                due(check, n + " for 0, c is " + c, type, Fonts.marksOn(no, no, c, marks(0),
                        Fonts.bases(n, new Part[n * c])), n == 0);
            }
        }
        for (int k = 0; k < 6; k++) {
            int[] places = new int[6];
            places[k] = 9000;
            due(check, "outside " + k, type,
                    Fonts.marksOn(no, TWO, 3, marks(0), Part.of(2).u16(places)), false);
        }
        due(check, "BASES outside", type,
                Part.of(1).to(no, no).u16(1).to(Tables.none()).u16(9000), false);
    }

    private static void ligatures(Check check) {
        Part no = Fonts.covers();
        Part one = Part.of(1, 0, 0);
        for (int n = 0; n <= 4; n++) {
            due(check, n + " for 2", 5,
                    Fonts.marksOn(no, TWO, 2, marks(0), Part.of(n).to(same(one, n))), n == 2);
        }
        for (int p = 0; p <= 3; p++) {
            Part parts = Part.of(p).to(same(ANCHOR, 2 * p));
            due(check, p + " parts first", 5,
                    Fonts.marksOn(no, TWO, 2, marks(0), Part.of(2).to(parts, one)), p != 0);
            due(check, p + " parts last", 5,
                    Fonts.marksOn(no, TWO, 2, marks(0), Part.of(2).to(one, parts)), p != 0);
            due(check, p + " parts without classes", 5,
                    Fonts.marksOn(no, TWO, 0, marks(0), Part.of(2).to(one, Part.of(p))), p != 0);
        }
        for (int k = 0; k < 4; k++) {
            int[] places = new int[4];
            places[k] = 9000;
            due(check, "outside " + k, 5, Fonts.marksOn(no, TWO, 2, marks(0),
                    Part.of(2).to(one, Part.of(2).u16(places))), false);
        }
        due(check, "a ligature outside", 5,
                Fonts.marksOn(no, TWO, 2, marks(0), Part.of(2).to(one).u16(9000)), false);
        due(check, "BASES outside", 5,
                Part.of(1).to(no, no).u16(1).to(Tables.none()).u16(9000), false);
    }
}
