import java.util.Arrays;

/** The limits of LOADING: what is just within them, and what has one more. */
public final class EdgeLimitTest {
    private static final int SCRIPTS = GlyphPositions.SCRIPTS;
    private static final int FEATURES = GlyphPositions.FEATURES;
    private static final int LOOKUPS = GlyphPositions.LOOKUPS;

    public static void main(String[] args) {
        Sentences all = new Sentences("EdgeLimitTest");
        all.test("There are at most 64 scripts,", EdgeLimitTest::scripts);
        all.test("64 scripts, languages of one,", EdgeLimitTest::languagesOfOne);
        all.test("languages of one, features,", EdgeLimitTest::features);
        all.test("features, features of a language,", EdgeLimitTest::featuresOfALanguage);
        all.test("features of a language, lookups,", EdgeLimitTest::lookups);
        all.test("lookups, lookups of a feature;", EdgeLimitTest::lookupsOfAFeature);
        all.test("16 subtables of a lookup;", EdgeLimitTest::subtables);
        all.test("256 things by INDEX,", EdgeLimitTest::thingsByIndex);
        all.test("glyphs behind one,", EdgeLimitTest::glyphsBehindOne);
        all.test("classes n and m;", EdgeLimitTest::classesNAndM);
        all.test("c at most 16,", EdgeLimitTest::markClasses);
        all.test("p at most 16.", EdgeLimitTest::parts);
        all.test("In all, LOADING looks at no more than 20,000 COVERAGES, CLASSES,",
                EdgeLimitTest::coveragesAndClasses);
        all.test("rows of glyphs behind one (TYPE 2, form 1),", EdgeLimitTest::rows);
        all.test("ANCHORS, and ligatures (TYPE 5),", EdgeLimitTest::anchorsAndLigatures);
        all.test("each as often as it is led to", EdgeLimitTest::asOftenAsLedTo);
        all.test("(places 0 lead to nothing).", EdgeLimitTest::placesZero);
        all.test("What has more is not as said.", EdgeLimitTest::farMore);
        all.end();
    }

    /** How many are tried round a limit, and far above it. */
    private static int[] round(int limit) {
        return new int[] {limit - 1, limit, limit + 1, limit + 2};
    }

    private static void due(Check check, String name, Part head, int due) {
        check.due(name, Tables.load(head), due);
    }

    private static void dueSub(Check check, String name, int type, Part subtable, boolean asSaid) {
        due(check, name, Tables.withSubtable(type, subtable), asSaid ? 1 : LOOKUPS);
        due(check, name + " by TYPE 9", Tables.withLookups(Fonts.far(type, 0, subtable)),
                asSaid ? 1 : LOOKUPS);
    }

    private static Part[] same(Part part, int many) {
        Part[] parts = new Part[many];
        Arrays.fill(parts, part);
        return parts;
    }

    private static void scripts(Check check) {
        for (int many : round(64)) {
            due(check, many + " scripts",
                    Tables.withScripts(Tables.tagged(new Part(), many, Fonts.script(null))),
                    many <= 64 ? 0 : SCRIPTS);
        }
    }

    private static void languagesOfOne(Check check) {
        Part l = Fonts.language(65535);
        for (int many : round(64)) {
            for (Part standard : new Part[] {null, l}) {
                due(check, many + " languages", Tables.withScript(
                        Tables.tagged(new Part().to(standard), many, l)),
                        many <= 64 ? 0 : SCRIPTS);
            }
        }
        Part full = Tables.tagged(new Part().to(l), 64, l);
        due(check, "64 of each of three", Tables.withScripts(
                Fonts.tagged(new Part(), 1, full, 2, full, 3, full)), 0);
    }

    private static void features(Check check) {
        for (int many : round(64)) {
            due(check, many + " features",
                    Tables.withFeatures(Tables.tagged(new Part(), many, Fonts.feature(1))),
                    many <= 64 ? 2 : FEATURES);
        }
    }

    private static void featuresOfALanguage(Check check) {
        for (int many : round(64)) {
            for (int required : new int[] {0, 65535}) {
                Part l = Fonts.language(required, new int[many]);
                due(check, many + " of the standard one", Tables.withScript(Fonts.script(l)),
                        many <= 64 ? 0 : SCRIPTS);
                due(check, many + " of another one", Tables.withScript(Fonts.script(null, 1, l)),
                        many <= 64 ? 0 : SCRIPTS);
            }
        }
    }

    private static void lookups(Check check) {
        for (int many : round(64)) {
            due(check, many + " lookups", Tables.withLookups(same(Fonts.lookup(1, 0), many)),
                    many <= 64 ? many : LOOKUPS);
        }
    }

    private static void lookupsOfAFeature(Check check) {
        for (int many : round(64)) {
            due(check, many + " lookups of a feature", Tables.withFeatures(
                    Fonts.tagged(new Part(), 1, Fonts.feature(new int[many]))),
                    many <= 64 ? 2 : FEATURES);
        }
    }

    private static void subtables(Check check) {
        for (int many : round(16)) {
            Part[] subtables = same(Fonts.single(Fonts.covers(1), 0), many);
            int due = many <= 16 ? 1 : LOOKUPS;
            due(check, many + " subtables", Tables.withLookups(Fonts.lookup(1, 0, subtables)), due);
            due(check, many + " of TYPE 9", Tables.withLookups(Fonts.far(1, 0, subtables)), due);
        }
    }

    private static void thingsByIndex(Check check) {
        Part no = Fonts.covers();
        Part none = Tables.none();
        Part a = Fonts.anchor(1, 2);
        for (int many : round(256)) {
            Part c = Fonts.coversRanges(1, many, 0);
            boolean asSaid = many <= 256;
            dueSub(check, many + " VALUES", 1, Fonts.singles(c, 4, many, new int[many]), asSaid);
            dueSub(check, many + " rows", 2, Fonts.pairs(c, 0, 0, same(none, many)), asSaid);
            dueSub(check, many + " ENTRIES and EXITS", 3,
                    Fonts.cursive(c, new Part[2 * many]), asSaid);
            Part marks = Part.of(many);
            for (int k = 0; k < many; k++) {
                marks.u16(0).to(a);
            }
            for (int type = 4; type <= 6; type++) {
                dueSub(check, many + " marks, TYPE " + type, type,
                        Fonts.marksOn(c, no, 1, marks, none), asSaid);
                Part bases = type == 5 ? Part.of(many).to(same(Part.of(1, 0), many))
                        : Fonts.bases(many, new Part[many]);
                dueSub(check, many + " bases, TYPE " + type, type,
                        Fonts.marksOn(no, c, 1, none, bases), asSaid);
            }
        }
    }

    private static void glyphsBehindOne(Check check) {
        for (int many : round(256)) {
            Part row = Part.of(many);
            for (int k = 0; k < many; k++) {
                row.u16(k).u16(1);
            }
            dueSub(check, many + " behind one", 2,
                    Fonts.pairs(Fonts.covers(1, 2), 4, 0, Part.of(0), row), many <= 256);
        }
    }

    private static void classesNAndM(Check check) {
        Part c = Fonts.covers(1);
        Part k = Fonts.classes(0);
        for (int many : round(256)) {
            for (int other : new int[] {0, 1, 256}) {
                dueSub(check, "n is " + many + ", m " + other, 2,
                        Fonts.pairClasses(c, 0, 0, k, k).u16(many, other), many <= 256);
                dueSub(check, "m is " + many + ", n " + other, 2,
                        Fonts.pairClasses(c, 0, 0, k, k).u16(other, many), many <= 256);
            }
        }
        dueSub(check, "256 times 1 with VALUES", 2,
                Fonts.pairClasses(c, 4, 0, k, k).u16(256, 1).u16(new int[256]), true);
        dueSub(check, "257 times 1 with VALUES", 2,
                Fonts.pairClasses(c, 4, 0, k, k).u16(257, 1).u16(new int[257]), false);
    }

    private static void markClasses(Check check) {
        Part no = Fonts.covers();
        Part one = Fonts.covers(1);
        for (int c : round(16)) {
            for (int type = 4; type <= 6; type++) {
                Part[] places = new Part[c];
                Part bases = type == 5 ? Part.of(1).to(Part.of(1).to(places))
                        : Fonts.bases(1, places);
                dueSub(check, "c is " + c + ", TYPE " + type, type,
                        Fonts.marksOn(no, one, c, Tables.none(), bases), c <= 16);
                dueSub(check, "c is " + c + " for nothing, TYPE " + type, type,
                        Fonts.marksOn(no, no, c, Tables.none(), Tables.none()), c <= 16);
            }
        }
    }

    private static void parts(Check check) {
        Part no = Fonts.covers();
        Part two = Fonts.covers(1, 2);
        for (int p : round(16)) {
            for (int c : new int[] {0, 1, 16}) {
                Part parts = Part.of(p).to(new Part[p * c]);
                Part one = Part.of(1).to(new Part[c]);
                dueSub(check, "p is " + p + ", c " + c, 5, Fonts.marksOn(no, two, c,
                        Tables.none(), Part.of(2).to(one, parts)), p <= 16);
            }
        }
    }

    private static void exactly(Check check, String name, int looks, int type, Part... subtables) {
        Looking.exactly(check, name, looks, Fonts.lookup(type, 0, subtables));
        Looking.exactly(check, name + " by TYPE 9", looks, Fonts.far(type, 0, subtables));
    }

    private static void coveragesAndClasses(Check check) {
        Part no = Fonts.covers();
        Part none = Tables.none();
        Part k = Fonts.classes(0);
        Part ranges = Fonts.classRanges();
        Looking.exactly(check, "no subtable", 0, Fonts.lookup(1, 0));
        exactly(check, "TYPE 1", 1, 1, Fonts.single(no, 0));
        exactly(check, "TYPE 1, form 2", 1, 1, Fonts.singles(no, 0, 0));
        exactly(check, "TYPE 2", 1, 2, Fonts.pairs(no, 0, 0));
        exactly(check, "TYPE 2, form 2", 3, 2, Fonts.pairClasses(no, 0, 0, k, ranges).u16(1, 1));
        exactly(check, "TYPE 3", 1, 3, Fonts.cursive(no));
        for (int type = 4; type <= 6; type++) {
            exactly(check, "TYPE " + type, 2, type, Fonts.marksOn(no, no, 1, none, none));
        }
        GlyphPositions x = Fonts.fed(Looking.table(0, Fonts.lookup(1, 0), 0).bytes());
        check.due("load()", x.load(), 64);
        check.due("load() counts anew", x.load(), 64);
        Fonts.feed(x, Looking.table(0, Fonts.lookup(1, 0), 1).bytes());
        check.due("load()", x.load(), LOOKUPS);
        Fonts.feed(x, Looking.table(0, Fonts.lookup(1, 0), 0).bytes());
        check.due("load() behind a refused one", x.load(), 64);
    }

    private static void rows(Check check) {
        Part row = Part.of(2, 1, 9, 2, 9);
        exactly(check, "one row", 2, 2, Fonts.pairs(Fonts.covers(1), 4, 0, row));
        exactly(check, "an empty row", 2, 2, Fonts.pairs(Fonts.covers(1), 4, 0, Part.of(0)));
        exactly(check, "three rows", 4, 2,
                Fonts.pairs(Fonts.covers(1, 2, 3), 4, 0, row, Part.of(0), row));
    }

    private static void anchorsAndLigatures(Check check) {
        Part no = Fonts.covers();
        Part one = Fonts.covers(1);
        Part none = Tables.none();
        Part a = Fonts.anchor(1, 2);
        Part marks = Fonts.marks(0, a);
        exactly(check, "ENTRY", 2, 3, Fonts.cursive(one, a, null));
        exactly(check, "EXIT", 2, 3, Fonts.cursive(one, null, a));
        exactly(check, "ENTRY and EXIT", 3, 3, Fonts.cursive(one, a, a));
        for (int type = 4; type <= 6; type++) {
            exactly(check, "a mark", 3, type, Fonts.marksOn(one, no, 1, marks, none));
        }
        exactly(check, "a base", 4, 4, Fonts.marksOn(no, one, 2, none, Fonts.bases(1, a, a)));
        exactly(check, "a mark as base", 3, 6,
                Fonts.marksOn(no, one, 2, none, Fonts.bases(1, null, a)));
        exactly(check, "a ligature", 3, 5,
                Fonts.marksOn(no, one, 0, none, Part.of(1).to(Part.of(3))));
        exactly(check, "a ligature with ANCHORS", 6, 5, Fonts.marksOn(no, one, 2, none,
                Part.of(1).to(Part.of(2).to(a, a, null, a))));
    }

    private static void asOftenAsLedTo(Check check) {
        Part one = Fonts.covers(1);
        Part single = Fonts.single(one, 0);
        exactly(check, "one subtable, three times", 3, 1, single, single, single);
        Part row = Part.of(0);
        exactly(check, "one row, twice", 3, 2, Fonts.pairs(Fonts.covers(1, 2), 4, 0, row, row));
        Part k = Fonts.classes(0);
        exactly(check, "the same CLASSES", 3, 2, Fonts.pairClasses(one, 0, 0, k, k).u16(1, 1));
        Part a = Fonts.anchor(1, 2);
        exactly(check, "one ANCHOR, four times", 5, 3,
                Fonts.cursive(Fonts.covers(1, 2), a, a, a, a));
        exactly(check, "one COVERAGE of marks and bases", 4, 4,
                Fonts.marksOn(one, one, 1, Fonts.marks(0, a), Fonts.bases(1, a)));
        Part ligature = Part.of(1).to(a);
        exactly(check, "one ligature, twice", 6, 5, Fonts.marksOn(Fonts.covers(),
                Fonts.covers(1, 2), 1, Tables.none(), Part.of(2).to(ligature, ligature)));
    }

    private static void placesZero(Check check) {
        Part no = Fonts.covers();
        Part one = Fonts.covers(1);
        exactly(check, "no ENTRY, no EXIT", 1, 3, Fonts.cursive(one, null, null));
        exactly(check, "bases without ANCHORS", 2, 4,
                Fonts.marksOn(no, one, 3, Tables.none(), Fonts.bases(1, new Part[3])));
        exactly(check, "marks without ANCHORS", 2, 6,
                Fonts.marksOn(no, one, 3, Tables.none(), Fonts.bases(1, new Part[3])));
        exactly(check, "a part without ANCHORS", 3, 5, Fonts.marksOn(no, one, 3, Tables.none(),
                Part.of(1).to(Part.of(2).to(new Part[6]))));
    }

    /** With a number that is as high as it can be, whatever stands behind it. */
    private static void farMore(Check check) {
        Part more = Part.of(65535).u16(new int[2000]);
        due(check, "scripts", Fonts.head(more, Tables.none(), Tables.none()), SCRIPTS);
        due(check, "features", Fonts.head(Tables.none(), more, Tables.none()), FEATURES);
        due(check, "lookups", Fonts.head(Tables.none(), Tables.none(), more), LOOKUPS);
        due(check, "languages", Tables.withScript(Part.of(0, 65535)), SCRIPTS);
        due(check, "features of a language",
                Tables.withScript(Fonts.script(Part.of(0, 65535, 65535))), SCRIPTS);
        due(check, "lookups of a feature",
                Tables.withFeatures(Fonts.tagged(new Part(), 1, Part.of(0, 65535))), FEATURES);
        due(check, "subtables", Tables.withLookups(Part.of(1, 0, 65535)), LOOKUPS);
        Part all = Fonts.coversRanges(0, 65535, 0);
        Part k = Fonts.classes(0);
        Part no = Fonts.covers();
        dueSub(check, "VALUES without bits", 1, Fonts.singles(all, 0, 65535), false);
        dueSub(check, "rows", 2, Part.of(1).to(all).u16(0, 0, 65535), false);
        dueSub(check, "glyphs behind one", 2,
                Fonts.pairs(Fonts.covers(1), 0, 0, Part.of(65535)), false);
        dueSub(check, "n and m", 2,
                Fonts.pairClasses(no, 0, 0, k, k).u16(65535, 65535), false);
        dueSub(check, "n and m with VALUES", 2,
                Fonts.pairClasses(no, 255, 255, k, k).u16(65535, 65535), false);
        dueSub(check, "ENTRIES", 3, Part.of(1).to(all).u16(65535), false);
        dueSub(check, "c", 4, Fonts.marksOn(no, no, 65535, Tables.none(), Tables.none()), false);
        dueSub(check, "p", 5, Fonts.marksOn(no, Fonts.covers(1), 0, Tables.none(),
                Part.of(1).to(Part.of(65535))), false);
    }
}
