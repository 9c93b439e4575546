import java.util.Arrays;

/** Promise 5: what LOADING finds as said, what not, and that it keeps what was loaded. */
public final class LoadTest {
    private static final int OK = 1;
    private static final int HEAD = GlyphPositions.HEAD;
    private static final int SCRIPTS = GlyphPositions.SCRIPTS;
    private static final int FEATURES = GlyphPositions.FEATURES;
    private static final int LOOKUPS = GlyphPositions.LOOKUPS;

    private static final Check CHECK = new Check("LoadTest");

    public static void main(String[] args) {
        head();
        scripts();
        languages();
        features();
        order();
        lookups();
        extensions();
        coverages();
        classes();
        singles();
        pairs();
        pairClasses();
        cursive();
        marksOnBases();
        ligatures();
        inAll();
        everyCut();
        keeps();
        CHECK.end();
    }

    private static void due(String font, Part head, int due) {
        CHECK.due(font, Tables.load(head), due);
    }

    private static void dueScripts(String font, Part scripts, int due) {
        due(font, Tables.withScripts(scripts), due);
    }

    private static void dueFeatures(String font, Part features, int due) {
        due(font, Tables.withFeatures(features), due);
    }

    private static void dueLookups(String font, int due, Part... lookups) {
        due(font, Tables.withLookups(lookups), due);
    }

    private static void dueSubtable(String font, int type, Part subtable, boolean asSaid) {
        dueLookups(font, asSaid ? OK : LOOKUPS, Fonts.lookup(type, 0, subtable));
        dueLookups(font + " by TYPE 9", asSaid ? OK : LOOKUPS, Fonts.far(type, 0, subtable));
    }

    private static void head() {
        due("the least", Fonts.head(Tables.none(), Tables.none(), Tables.none()), 0);
        int[] least = {0, 1, 0, 0, 0, 10, 0, 10, 0, 10, 0, 0};
        int[][] changes = {{0, 1}, {1, 0}, {1, 2}, {2, 1}, {3, 1}, {5, 0}, {7, 0}, {9, 0}};
        for (int[] change : changes) {
            byte[] bytes = new byte[12];
            for (int i = 0; i < 12; i++) {
                bytes[i] = (byte) least[i];
            }
            CHECK.due("one place for all", Tables.load(bytes), 0);
            bytes[change[0]] = (byte) change[1];
            CHECK.due("byte " + change[0] + " is " + change[1], Tables.load(bytes), HEAD);
        }
    }

    private static void scripts() {
        Part s = Fonts.script(null);
        dueScripts("tags rise", Fonts.tagged(new Part(), 1, s, 2, s), 0);
        dueScripts("without sign", Fonts.tagged(new Part(), 0, s, 0x7fffffff, s,
                0x80000000, s, -1, s), 0);
        dueScripts("not with sign", Fonts.tagged(new Part(), -1, s, 0, s), SCRIPTS);
        dueScripts("the same tag", Fonts.tagged(new Part(), 2, s, 2, s), SCRIPTS);
        dueScripts("a lower tag", Fonts.tagged(new Part(), 2, s, 1, s), SCRIPTS);
        dueScripts("64 scripts", Tables.tagged(new Part(), 64, s), 0);
        dueScripts("65 scripts", Tables.tagged(new Part(), 65, s), SCRIPTS);
        dueScripts("64 languages", Fonts.tagged(new Part(), 1,
                Tables.tagged(new Part().to((Part) null), 64, Fonts.language(65535))), 0);
        dueScripts("65 languages", Fonts.tagged(new Part(), 1,
                Tables.tagged(new Part().to((Part) null), 65, Fonts.language(65535))), SCRIPTS);
        dueScripts("a script outside", Part.of(1).u32(7).u16(9000), SCRIPTS);
    }

    private static void dueLanguage(String font, Part language, int due) {
        dueScripts(font + " (standard)", Fonts.tagged(new Part(), 1, Fonts.script(language)), due);
        dueScripts(font, Fonts.tagged(new Part(), 1, Fonts.script(null, 5, language)), due);
    }

    private static void languages() {
        Part l = Fonts.language(65535);
        dueLanguage("no features", l, 0);
        dueLanguage("anything first", Part.of(4711, 65535, 0), 0);
        dueLanguage("numbers below", Fonts.language(2, 2, 0, 1, 1), 0);
        dueLanguage("required not below", Fonts.language(3), SCRIPTS);
        dueLanguage("required 65534", Fonts.language(65534), SCRIPTS);
        dueLanguage("number not below", Fonts.language(65535, 0, 3), SCRIPTS);
        dueLanguage("number 65535", Fonts.language(65535, 65535), SCRIPTS);
        dueLanguage("64 features", Fonts.language(65535, new int[64]), 0);
        dueLanguage("65 features", Fonts.language(65535, new int[65]), SCRIPTS);
        dueLanguage("outside", Part.of(0, 65535, 64), SCRIPTS);
        dueScripts("tags of languages the same",
                Fonts.tagged(new Part(), 1, Fonts.script(l, 2, l, 2, l)), SCRIPTS);
        dueScripts("tags of languages fall",
                Fonts.tagged(new Part(), 1, Fonts.script(l, -2, l, 2, l)), SCRIPTS);
        dueScripts("tags of languages rise",
                Fonts.tagged(new Part(), 1, Fonts.script(l, 2, l, -2, l)), 0);
    }

    private static void features() {
        Part f = Fonts.feature(0, 1, 1);
        dueFeatures("tags don't fall", Fonts.tagged(new Part(), 1, f, 1, f, -2, f, -1, f), 2);
        dueFeatures("tags fall", Fonts.tagged(new Part(), 1, f, -1, f, -2, f), FEATURES);
        dueFeatures("not below", Fonts.tagged(new Part(), 1, Fonts.feature(2)), FEATURES);
        dueFeatures("anything first", Fonts.tagged(new Part(), 1, Part.of(9, 1, 1)), 2);
        dueFeatures("64 features", Tables.tagged(new Part(), 64, f), 2);
        dueFeatures("65 features", Tables.tagged(new Part(), 65, f), FEATURES);
        dueFeatures("64 lookups of one",
                Fonts.tagged(new Part(), 1, Fonts.feature(new int[64])), 2);
        dueFeatures("65 lookups of one",
                Fonts.tagged(new Part(), 1, Fonts.feature(new int[65])), FEATURES);
        dueFeatures("a feature outside", Part.of(1).u32(7).u16(9000), FEATURES);
    }

    /** The first part that is not as said is told, and how many there are counts for others. */
    private static void order() {
        Part asks = Fonts.tagged(new Part(), 1, Fonts.script(Fonts.language(65535, 0)));
        Part requires = Fonts.tagged(new Part(), 1, Fonts.script(Fonts.language(0)));
        Part asksNothing = Fonts.tagged(new Part(), 1, Fonts.script(Fonts.language(65535)));
        Part badFeatures = Fonts.tagged(new Part(), 1, Fonts.feature(5));
        Part badLookups = Fonts.lookups(Fonts.lookup(7, 0));
        due("all wrong", Fonts.head(asks, badFeatures, badLookups), FEATURES);
        due("lookups wrong", Fonts.head(asks,
                Fonts.tagged(new Part(), 1, Fonts.feature(0)), badLookups), LOOKUPS);
        due("66 features said", Fonts.head(Fonts.tagged(new Part(), 1,
                Fonts.script(Fonts.language(65535, 65))), Part.of(66), Tables.none()), FEATURES);
        Part outside = Part.of(1, 0).to(asks).u16(5000, 5000);
        due("FEATURES outside, asked for", outside, SCRIPTS);
        due("FEATURES outside, required", Part.of(1, 0).to(requires).u16(5000, 5000), SCRIPTS);
        due("FEATURES outside", Part.of(1, 0).to(asksNothing).u16(5000, 5000), FEATURES);
        Part features = Fonts.tagged(new Part(), 1, Fonts.feature(0));
        due("LOOKUPS outside, asked for",
                Part.of(1, 0).to(Tables.none(), features).u16(5000), FEATURES);
        due("LOOKUPS outside", Part.of(1, 0).to(Tables.none(), Tables.none()).u16(5000), LOOKUPS);
        due("SCRIPTS outside", Part.of(1, 0).u16(5000).to(badFeatures, badLookups), SCRIPTS);
    }

    private static void lookups() {
        for (int type = 0; type <= 10; type++) {
            boolean asSaid = type >= 1 && type <= 6 || type == 9;
            dueLookups("TYPE " + type, asSaid ? OK : LOOKUPS, Fonts.lookup(type, 0));
        }
        for (int bit = 0; bit < 16; bit++) {
            dueLookups("FLAG bit " + bit, bit == 4 ? LOOKUPS : OK, Fonts.lookup(1, 1 << bit));
        }
        Part[] lookups = new Part[65];
        Arrays.fill(lookups, Fonts.lookup(4, 0));
        dueLookups("64 lookups", 64, Arrays.copyOf(lookups, 64));
        dueLookups("65 lookups", LOOKUPS, lookups);
        Part[] subtables = new Part[17];
        Arrays.fill(subtables, Fonts.single(Fonts.covers(1), 0));
        dueLookups("16 subtables", OK,
                Fonts.lookup(1, 0, Arrays.copyOf(subtables, 16)));
        dueLookups("17 subtables", LOOKUPS, Fonts.lookup(1, 0, subtables));
        dueLookups("a subtable outside", LOOKUPS, Part.of(1, 0, 1, 9000));
        dueLookups("one wrong lookup", LOOKUPS, Fonts.lookup(1, 0), Fonts.lookup(8, 0));
    }

    private static void extensions() {
        Part one = Fonts.single(Fonts.covers(1), 0);
        Part two = Fonts.pairs(Fonts.covers(), 0, 0);
        dueLookups("two of one type", OK, Fonts.far(1, 0, one, one));
        dueLookups("two types", LOOKUPS,
                Fonts.lookup(9, 0, Part.of(1, 1).far(one), Part.of(1, 2).far(two)));
        dueLookups("form 2", LOOKUPS, Fonts.lookup(9, 0, Part.of(2, 1).far(one)));
        for (int type : new int[] {0, 7, 8, 9}) {
            dueLookups("for TYPE " + type, LOOKUPS, Fonts.lookup(9, 0, Part.of(1, type).far(one)));
        }
        // Its place 0 is its own: form 1, a COVERAGE without ranges at 2, no bits, n is 0.
        dueLookups("for itself", OK, Fonts.lookup(9, 0, Part.of(1, 2, 0, 0, 0)));
        for (int place : new int[] {-1, Integer.MIN_VALUE, Integer.MAX_VALUE, 9000, 0x10000}) {
            dueLookups("far outside", LOOKUPS, Fonts.lookup(9, 0, Part.of(1, 1).u32(place)));
        }
    }

    private static void dueCoverage(String font, Part coverage, boolean asSaid) {
        dueSubtable(font, 1, Fonts.single(coverage, 0), asSaid);
    }

    private static void coverages() {
        dueCoverage("form 0", Part.of(0, 0), false);
        dueCoverage("form 3", Part.of(3, 0), false);
        dueCoverage("none", Fonts.covers(), true);
        dueCoverage("rising", Fonts.covers(0, 1, 65535), true);
        dueCoverage("the same again", Fonts.covers(1, 1), false);
        dueCoverage("falling", Fonts.covers(2, 1), false);
        dueCoverage("outside", Part.of(1, 3, 1, 2), false);
        dueCoverage("no ranges", Fonts.coversRanges(), true);
        dueCoverage("all glyphs", Fonts.coversRanges(0, 65535, 0), true);
        dueCoverage("ranges", Fonts.coversRanges(1, 3, 0, 4, 4, 3, 9, 9, 4), true);
        dueCoverage("a gap", Fonts.coversRanges(1, 3, 0, 4, 4, 4), false);
        dueCoverage("not from 0", Fonts.coversRanges(1, 3, 1), false);
        dueCoverage("first above last", Fonts.coversRanges(3, 2, 0), false);
        dueCoverage("overlapping", Fonts.coversRanges(1, 3, 0, 3, 4, 3), false);
        dueCoverage("falling ranges", Fonts.coversRanges(5, 6, 0, 3, 4, 2), false);
        dueCoverage("ranges outside", Part.of(2, 2, 1, 2, 0, 5, 6), false);
        int[] glyphs = new int[300];
        for (int k = 0; k < 300; k++) {
            glyphs[k] = k;
        }
        dueCoverage("300 glyphs", Fonts.covers(glyphs), true);
    }

    private static Part byClasses(Part first, Part second, int n, int m) {
        return Fonts.pairClasses(Fonts.covers(1), 0, 0, first, second).u16(n, m);
    }

    private static void dueClasses(String font, Part classes, boolean asSaid) {
        Part good = Fonts.classes(0);
        dueSubtable(font + " first", 2, byClasses(classes, good, 1, 1), asSaid);
        dueSubtable(font + " second", 2, byClasses(good, classes, 1, 1), asSaid);
    }

    private static void classes() {
        dueClasses("form 0", Part.of(0, 0, 0), false);
        dueClasses("form 3", Part.of(3, 0, 0), false);
        dueClasses("none", Fonts.classes(65535), true);
        dueClasses("some", Fonts.classes(65533, 0, 65535, 7), true);
        dueClasses("beyond 65535", Fonts.classes(65534, 0, 65535, 7), false);
        dueClasses("outside", Part.of(1, 5, 4100, 1, 1), false);
        dueSubtable("cut", 2, byClasses(Fonts.classes(0), Part.of(1, 5, 3, 1, 1), 1, 1), false);
        dueSubtable("head cut", 2, byClasses(Fonts.classes(0), Part.of(1, 5), 1, 1), false);
        dueClasses("no ranges", Fonts.classRanges(), true);
        dueClasses("ranges", Fonts.classRanges(0, 0, 9, 1, 65535, 9), true);
        dueClasses("first above last", Fonts.classRanges(4, 3, 9), false);
        dueClasses("overlapping", Fonts.classRanges(1, 3, 0, 3, 4, 3), false);
        dueClasses("falling", Fonts.classRanges(5, 6, 0, 1, 2, 0), false);
        int[] rising = new int[3 * 300];
        for (int k = 0; k < 300; k++) {
            rising[3 * k] = k;
            rising[3 * k + 1] = k;
        }
        dueClasses("300 ranges", Fonts.classRanges(rising), true);
        dueSubtable("ranges cut", 2,
                byClasses(Fonts.classes(0), Part.of(2, 2, 1, 2, 0, 5, 6), 1, 1), false);
    }

    private static void singles() {
        Part c = Fonts.covers(4, 5);
        dueSubtable("form 0", 1, Part.of(0).to(c).u16(0), false);
        dueSubtable("form 3", 1, Part.of(3).to(c).u16(0), false);
        dueSubtable("all bits", 1, Fonts.single(c, 255, 1, 2, 3, 4, 5, 6, 7, 8), true);
        dueSubtable("bit 8", 1, Fonts.single(c, 256, 1), false);
        dueSubtable("bit 15", 1, Fonts.single(c, 0x8000, 1), false);
        dueSubtable("form 2", 1, Fonts.singles(c, 5, 2, 1, 2, 3, 4), true);
        dueSubtable("form 2, bit 8", 1, Fonts.singles(c, 256, 2, 1, 2), false);
        dueSubtable("fewer than covered", 1, Fonts.singles(c, 1, 1, 1), false);
        dueSubtable("more than covered", 1, Fonts.singles(c, 1, 3, 1, 2, 3), false);
        dueSubtable("256 by INDEX", 1, Fonts.singles(Fonts.coversRanges(0, 255, 0), 0, 256), true);
        dueSubtable("257 by INDEX", 1, Fonts.singles(Fonts.coversRanges(0, 256, 0), 0, 257), false);
        // The place 0 of a COVERAGE leads to the subtable itself, here one that covers nothing.
        dueLookups("value at the end", OK, Fonts.lookup(1, 0, Part.of(1, 0, 1, 5)));
        dueLookups("value behind the end", LOOKUPS, Fonts.lookup(1, 0, Part.of(1, 0, 1)));
    }

    private static void pairs() {
        Part c = Fonts.covers(4, 5);
        Part row = Part.of(2, 7, 1, 2, 8, 3, 4);
        dueSubtable("form 0", 2, Part.of(0).to(c).u16(0, 0, 0), false);
        dueSubtable("form 3", 2, Part.of(3).to(c).u16(0, 0, 0), false);
        dueSubtable("rows", 2, Fonts.pairs(c, 4, 1, row, row), true);
        dueSubtable("an empty row", 2, Fonts.pairs(c, 4, 1, Part.of(0), row), true);
        dueSubtable("fewer rows", 2, Fonts.pairs(c, 4, 1, row), false);
        dueSubtable("more rows", 2, Fonts.pairs(c, 4, 1, row, row, row), false);
        dueSubtable("bit 8", 2, Fonts.pairs(c, 256, 1, row, row), false);
        dueSubtable("bit 8 of the second", 2, Fonts.pairs(c, 1, 256, row, row), false);
        dueSubtable("the same glyph", 2, Fonts.pairs(c, 4, 0, Part.of(2, 7, 1, 7, 1), row), false);
        dueSubtable("falling", 2, Fonts.pairs(c, 4, 0, Part.of(2, 7, 1, 6, 1), row), false);
        dueSubtable("a row outside", 2, Fonts.pairs(c, 4, 1, row, Part.of(250)), false);
        for (int many = 256; many <= 257; many++) {
            Part wide = Part.of(many);
            for (int k = 0; k < many; k++) {
                wide.u16(k);
            }
            dueSubtable(many + " glyphs behind one", 2, Fonts.pairs(c, 0, 0, wide, wide),
                    many == 256);
            Part[] rows = new Part[many];
            Arrays.fill(rows, Part.of(0));
            dueSubtable(many + " rows", 2,
                    Fonts.pairs(Fonts.coversRanges(1, many, 0), 0, 0, rows), many == 256);
        }
    }

    private static void pairClasses() {
        Part c = Fonts.covers(4, 5);
        Part one = Fonts.classes(4, 1);
        dueSubtable("two by one", 2, Fonts.pairClasses(c, 1, 4, one, one).u16(2, 1)
                .u16(1, 2, 3, 4), true);
        dueSubtable("n is 0", 2, Fonts.pairClasses(c, 1, 4, one, one).u16(0, 256), true);
        dueSubtable("256 by 256", 2, byClasses(one, one, 256, 256), true);
        dueSubtable("257 by 1", 2, byClasses(one, one, 257, 1), false);
        dueSubtable("1 by 257", 2, byClasses(one, one, 1, 257), false);
        dueSubtable("values outside", 2,
                Fonts.pairClasses(c, 255, 255, one, one).u16(256, 256), false);
        dueLookups("values at the end", OK,
                Fonts.lookup(2, 0, Part.of(2, 0, 1, 4, 0, 0, 1, 2, 5, 6, 7, 8)));
        dueLookups("values behind the end", LOOKUPS,
                Fonts.lookup(2, 0, Part.of(2, 0, 1, 4, 0, 0, 1, 2, 5, 6, 7)));
        dueSubtable("bit 8", 2, Fonts.pairClasses(c, 256, 0, one, one).u16(0, 0), false);
        dueSubtable("bit 8 of the second", 2,
                Fonts.pairClasses(c, 0, 256, one, one).u16(0, 0), false);
        dueSubtable("no coverage", 2,
                Fonts.pairClasses(Part.of(7, 7), 0, 0, one, one).u16(0, 0), false);
    }

    private static void cursive() {
        Part c = Fonts.covers(4, 5);
        Part a = Fonts.anchor(1, 2);
        dueSubtable("anchors", 3, Fonts.cursive(c, a, null, null, a), true);
        dueSubtable("form 2", 3, Part.of(2).to(c).u16(2).to(a, a, a, a), false);
        dueSubtable("fewer", 3, Fonts.cursive(c, a, a), false);
        dueSubtable("more", 3, Fonts.cursive(c, a, a, a, a, a, a), false);
        for (int form = 0; form <= 4; form++) {
            Part b = Part.of(form, 1, 2);
            dueSubtable("anchor of form " + form, 3, Fonts.cursive(c, a, a, a, b),
                    form >= 1 && form <= 3);
        }
        dueSubtable("anchor cut", 3, Fonts.cursive(c, null, null, null, Part.of(1, 2)), false);
        Part[] none = new Part[2 * 257];
        dueSubtable("256 by INDEX", 3, Fonts.cursive(Fonts.coversRanges(0, 255, 0),
                Arrays.copyOf(none, 512)), true);
        dueSubtable("257 by INDEX", 3, Fonts.cursive(Fonts.coversRanges(0, 256, 0), none), false);
    }

    private static void marksOnBases() {
        Part m = Fonts.covers(4, 5);
        Part b = Fonts.covers(7);
        Part a = Fonts.anchor(1, 2);
        Part marks = Fonts.marks(0, a, 1, a);
        Part bases = Fonts.bases(1, a, null);
        for (int type : new int[] {4, 6}) {
            dueSubtable("as said", type, Fonts.marksOn(m, b, 2, marks, bases), true);
            dueSubtable("form 2", type,
                    Part.of(2).to(m, b).u16(2).to(marks, bases), false);
            dueSubtable("class not below c", type,
                    Fonts.marksOn(m, b, 1, marks, Fonts.bases(1, a)), false);
            dueSubtable("fewer marks", type,
                    Fonts.marksOn(m, b, 2, Fonts.marks(0, a), bases), false);
            dueSubtable("more bases", type,
                    Fonts.marksOn(m, b, 2, marks, Fonts.bases(2, a, a, a, a)), false);
            dueSubtable("wrong anchor of a mark", type,
                    Fonts.marksOn(m, b, 2, Fonts.marks(0, a, 1, Part.of(4, 0, 0)), bases), false);
            dueSubtable("wrong anchor of a base", type,
                    Fonts.marksOn(m, b, 2, marks, Fonts.bases(1, a, Part.of(0, 0, 0))), false);
            dueSubtable("c is 16", type,
                    Fonts.marksOn(m, b, 16, marks, Fonts.bases(1, new Part[16])), true);
            dueSubtable("c is 17", type,
                    Fonts.marksOn(m, b, 17, marks, Fonts.bases(1, new Part[17])), false);
            dueSubtable("c is 0", type,
                    Fonts.marksOn(Fonts.covers(), b, 0, Fonts.marks(), Fonts.bases(1)), true);
            dueSubtable("no bases' coverage", type,
                    Fonts.marksOn(m, Part.of(0, 0), 2, marks, bases), false);
            dueSubtable("256 bases", type, Fonts.marksOn(m, Fonts.coversRanges(1, 256, 0), 2,
                    marks, Fonts.bases(256, new Part[512])), true);
            dueSubtable("257 bases", type, Fonts.marksOn(m, Fonts.coversRanges(1, 257, 0), 2,
                    marks, Fonts.bases(257, new Part[514])), false);
        }
        // Both COVERAGES are the subtable itself, which covers nothing; MARKS and BASES have none.
        dueLookups("12 bytes at the end", OK, Fonts.lookup(4, 0, Part.of(1, 0, 0, 0, 2, 2)));
        dueLookups("10 bytes at the end", LOOKUPS, Fonts.lookup(4, 0, Part.of(1, 0, 0, 0, 2)));
        // A mark's place is never none: 0 leads to the MARKS themselves, here an ANCHOR by chance.
        dueSubtable("mark's place 0", 4, Fonts.marksOn(m, b, 2,
                Part.of(2, 0, 0, 1, 0), bases), true);
        dueSubtable("mark's place 0, no ANCHOR", 4, Fonts.marksOn(Fonts.covers(1, 2, 3, 4), b, 1,
                Part.of(4, 0, 0, 0, 0, 0, 0, 0, 0), Fonts.bases(1, a)), false);
    }

    private static void ligatures() {
        Part m = Fonts.covers(4);
        Part b = Fonts.covers(7, 8);
        Part a = Fonts.anchor(1, 2);
        Part marks = Fonts.marks(1, a);
        Part two = Part.of(2).to(a, null, null, a);
        Part one = Part.of(1).to(a, a);
        dueSubtable("as said", 5, Fonts.marksOn(m, b, 2, marks, Part.of(2).to(two, one)), true);
        dueSubtable("form 2", 5,
                Part.of(2).to(m, b).u16(2).to(marks, Part.of(2).to(two, one)), false);
        dueSubtable("no part", 5,
                Fonts.marksOn(m, b, 2, marks, Part.of(2).to(two, Part.of(0))), false);
        dueSubtable("fewer", 5, Fonts.marksOn(m, b, 2, marks, Part.of(1).to(one)), false);
        dueSubtable("16 parts", 5, Fonts.marksOn(m, b, 2, marks,
                Part.of(2).to(one, Part.of(16).to(new Part[32]))), true);
        dueSubtable("17 parts", 5, Fonts.marksOn(m, b, 2, marks,
                Part.of(2).to(one, Part.of(17).to(new Part[34]))), false);
        dueSubtable("wrong anchor", 5, Fonts.marksOn(m, b, 2, marks,
                Part.of(2).to(one, Part.of(1).to(a, Part.of(9, 9, 9)))), false);
        dueSubtable("class not below c", 5, Fonts.marksOn(m, b, 2, Fonts.marks(2, a),
                Part.of(2).to(two, one)), false);
    }

    private static void inAll() {
        Part none = Fonts.covers();
        Part one = Fonts.covers(1);
        Part c = Fonts.classes(0);
        Part a = Fonts.anchor(1, 2);
        Looking.exactly(CHECK, "nothing", 0, Fonts.lookup(1, 0));
        exactly("COVERAGE", 1, 1, Fonts.single(none, 0));
        exactly("CLASSES and COVERAGES", 3, 2, byClasses(c, c, 1, 1));
        exactly("rows", 2, 2, Fonts.pairs(one, 0, 0, Part.of(0)));
        exactly("ligatures", 4, 5, Fonts.marksOn(none, one, 1, Fonts.marks(),
                Part.of(1).to(Part.of(1).to(a))));
        exactly("marks", 4, 4, Fonts.marksOn(one, one, 1, Fonts.marks(0, a), Fonts.bases(1, a)));
        exactly("no anchor", 3, 6,
                Fonts.marksOn(one, one, 1, Fonts.marks(0, a), Fonts.bases(1, (Part) null)));
    }

    private static void exactly(String font, int looks, int type, Part subtable) {
        Looking.exactly(CHECK, font, looks, Fonts.lookup(type, 0, subtable));
    }

    /** Fonts in which each byte is needed: no shorter one is as said. */
    private static void everyCut() {
        Part a = Fonts.anchor(1, 2);
        Part c = Fonts.covers(1);
        Part k = Fonts.classes(3, 1);
        Part[] lookups = {
            Fonts.lookup(1, 0, Fonts.single(c, 1, 5)),
            Fonts.lookup(1, 0, Fonts.singles(Fonts.coversRanges(1, 2, 0), 1, 2, 5, 6)),
            Fonts.lookup(2, 0, Fonts.pairs(c, 1, 1, Part.of(1, 7, 8, 9))),
            Fonts.lookup(2, 0, Fonts.pairClasses(c, 1, 1, k, k).u16(1, 1, 2, 2)),
            Fonts.lookup(3, 0, Fonts.cursive(c, a, null)),
            Fonts.lookup(4, 0, Fonts.marksOn(c, c, 1, Fonts.marks(0, a), Fonts.bases(1, a))),
            Fonts.far(5, 0, Fonts.marksOn(c, c, 1, Fonts.marks(0, a),
                    Part.of(1).to(Part.of(1).to(a)))),
            Fonts.lookup(6, 0, Fonts.marksOn(c, c, 1, Fonts.marks(0, a),
                    Fonts.bases(1, (Part) null))),
        };
        for (Part lookup : lookups) {
            byte[] font = Fonts.requiring(lookup);
            CHECK.due("whole", Tables.load(font), OK);
            for (int size = 0; size < font.length; size++) {
                int got = Tables.load(Arrays.copyOf(font, size));
                CHECK.due("cut to " + size + ": " + got + " is below 0", got < 0 ? 1 : 0, 1);
            }
            CHECK.due("9 bytes", Tables.load(Arrays.copyOf(font, 9)), HEAD);
        }
    }

    private static void keeps() {
        Part wider = Fonts.single(Fonts.covers(1), 4, 5);
        byte[] font = Fonts.requiring(Fonts.lookup(1, 0, wider));
        GlyphPositions x = Fonts.fed(font);
        CHECK.due("load", x.load(), 1);
        Fonts.glyphs(x, 1);
        CHECK.due("what was fed stays", x.feed(0), font.length + 4);
        x.put(1, 9);
        CHECK.due("load of a wrong one", x.load(), HEAD);
        x.set(false);
        CHECK.due("the one before stays", x.place(0, 0), 105);
        x.cut(0);
        CHECK.due("load of nothing", x.load(), HEAD);
        x.set(false);
        CHECK.due("the one before stays", x.place(0, 0), 105);
        Fonts.feed(x, Fonts.requiring());
        CHECK.due("load without lookups", x.load(), 0);
        CHECK.due("the run set last stays", x.place(0, 0), 105);
        x.set(false);
        CHECK.due("another one", x.place(0, 0), 100);
    }
}
