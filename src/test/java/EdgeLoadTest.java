import java.util.Arrays;

/** The boundary cases of LOADING down to the lookups, and of promise 5. */
public final class EdgeLoadTest {
    private static final int HEAD = GlyphPositions.HEAD;
    private static final int SCRIPTS = GlyphPositions.SCRIPTS;
    private static final int FEATURES = GlyphPositions.FEATURES;
    private static final int LOOKUPS = GlyphPositions.LOOKUPS;

    /** A place at which HEAD has the number 0: a list there has nothing in it. */
    private static final int NOTHING = 2;

    public static void main(String[] args) {
        Sentences all = new Sentences("EdgeLoadTest");
        all.test("U16, U32 are numbers in it, the highest byte first,",
                EdgeLoadTest::highestByteFirst);
        all.test("A PLACE (U16 if nothing else is said) counts from the beginning of the part in "
                + "which it stands, as said in front of it;", EdgeLoadTest::placesDoNotWrap);
        all.test("a TAG is a U32.", EdgeLoadTest::allOfATag);
        all.test("All that is read must lie in the table.", EdgeLoadTest::allMustLie);
        all.test("LOADING looks at all parts that are led to;", EdgeLoadTest::allThatAreLedTo);
        all.test("what is told is the first in this order of HEAD, SCRIPTS, FEATURES, LOOKUPS "
                + "that is not as said.", EdgeLoadTest::firstInOrder);
        all.test("HEAD: U16 1, U16 0,", EdgeLoadTest::oneAndZero);
        all.test("places of the SCRIPTS, the FEATURES, the LOOKUPS, none of them 0.",
                EdgeLoadTest::noneOfThemZero);
        all.test("SCRIPTS: U16 n, n times TAG and place of a SCRIPT;",
                EdgeLoadTest::asManyScripts);
        all.test("tags rise (each is above the one before, as numbers without sign).",
                EdgeLoadTest::tagsOfScriptsRise);
        all.test("SCRIPT: place of its standard LANGUAGE (0 for none);",
                EdgeLoadTest::standardLanguage);
        all.test("U16 n, n times TAG and place of a LANGUAGE; tags rise.",
                EdgeLoadTest::tagsOfLanguagesRise);
        all.test("LANGUAGE: U16 (anything),", EdgeLoadTest::languageBeginsWithAnything);
        all.test("U16 the number of the feature it REQUIRES (65535 for none),",
                EdgeLoadTest::required);
        all.test("U16 n, n numbers of features.", EdgeLoadTest::asManyFeatures);
        all.test("Each number is below the U16 with which FEATURES begin",
                EdgeLoadTest::numbersOfFeatures);
        all.test("(where that does not lie in the table, what is to be below it is not as said;",
                EdgeLoadTest::featuresOutside);
        all.test("with LOOKUPS likewise)", EdgeLoadTest::lookupsOutside);
        all.test("n times TAG and place of a FEATURE; tags don't fall.",
                EdgeLoadTest::tagsOfFeatures);
        all.test("FEATURE: U16 (anything),", EdgeLoadTest::featureBeginsWithAnything);
        all.test("n numbers of lookups, each below the U16 with which LOOKUPS begin.",
                EdgeLoadTest::numbersOfLookups);
        all.test("LOOKUPS: U16 n, n places of a LOOKUP.", EdgeLoadTest::asManyLookups);
        all.test("U16 n, n places of SUBTABLES.", EdgeLoadTest::asManySubtables);
        all.test("LOOKUP: U16 TYPE 1 .. 6 or 9,", EdgeLoadTest::types);
        all.test("U16 FLAG (its bits counted from 0, the lowest; bit 4 is not set),",
                EdgeLoadTest::bitFourOfFlag);
        all.test("A subtable begins with U16 its FORM.", EdgeLoadTest::forms);
        all.test("TYPE 9 stands for another one: each of its subtables is U16 1,",
                EdgeLoadTest::extensionForm);
        all.test("U16 the type (1 .. 6, in all of the lookup the same),",
                EdgeLoadTest::extensionType);
        all.test("U32 place of the true subtable.", EdgeLoadTest::extensionPlace);
        all.test("LOADING: how many lookups there are, or HEAD to LOOKUPS",
                EdgeLoadTest::howManyLookups);
        all.test("(the table loaded before stays, as it was then;", EdgeLoadTest::staysLoaded);
        all.test("later bytes do not change it;", EdgeLoadTest::laterBytes);
        all.test("what was fed stays, too)", EdgeLoadTest::staysFed);
        all.end();
    }

    private static void due(Check check, String table, Part head, int due) {
        check.due(table, Tables.load(head), due);
    }

    /** The other way round these would be as said, or not. */
    private static void highestByteFirst(Check check) {
        due(check, "1 is 0, 1", Part.of(1, 0, 10, 10, 10, 0), 0);
        due(check, "1 is not 1, 0", Part.of(0x0100, 0, 10, 10, 10, 0), HEAD);
        due(check, "10 is not 10, 0", Part.of(1, 0, 0x0a00, 10, 10, 0), SCRIPTS);
        due(check, "n is not 1, 0", Part.of(1, 0, NOTHING, NOTHING, 10, 0x0100), LOOKUPS);
        int[] far = new int[256];
        far[0] = 1;
        far[2] = far[3] = far[4] = 0x0100;
        due(check, "256 is 1, 0", Part.of(far), 0);
        Part s = Fonts.script(null);
        due(check, "tags", Tables.withScripts(
                Fonts.tagged(new Part(), 0x00000002, s, 0x01000000, s)), 0);
        due(check, "tags", Tables.withScripts(
                Fonts.tagged(new Part(), 0x01000000, s, 0x00000002, s)), SCRIPTS);
        due(check, "U32 place is 0, 0, 0, 8", extension(0, 8), 1);
        due(check, "U32 place is not 0, 8, 0, 0", extension(8, 0), LOOKUPS);
        due(check, "U32 place is not 8, 0, 0, 0", extension(0x0800, 0), LOOKUPS);
        due(check, "U32 place is not 0, 0, 8, 0", extension(0, 0x0800), LOOKUPS);
    }

    /** Of four bytes each, the last as well as the first: tags that differ in one are two. */
    private static void allOfATag(Check check) {
        Part s = Fonts.script(null);
        for (int bit = 0; bit < 32; bit++) {
            for (int tag : new int[] {0, 0x55555555, 0xaaaaaaaa, -1}) {
                int low = tag & ~(1 << bit);
                int high = tag | 1 << bit;
                due(check, "bit " + bit + " of " + tag,
                        Tables.withScripts(Fonts.tagged(new Part(), low, s, high, s)), 0);
                due(check, "bit " + bit + " of " + tag + " falls",
                        Tables.withScripts(Fonts.tagged(new Part(), high, s, low, s)), SCRIPTS);
            }
        }
    }

    /** Each place here would lead back to what is as said, if numbers of 16 bits wrapped. */
    private static void placesDoNotWrap(Check check) {
        int back = 65536;
        for (int place : new int[] {0, back - 18, 65535, 32768}) {
            due(check, "standard LANGUAGE at " + place, Part.of(1, 0, 20, NOTHING, NOTHING,
                    0, 65535, 0, 0, 0, 1, 0, 0, 8, place, 0), place == 0 ? 0 : SCRIPTS);
        }
        for (int place : new int[] {8, back - 4, 65535, 32768}) {
            due(check, "SCRIPT at " + place, Part.of(1, 0, 20, NOTHING, NOTHING,
                    0, 65535, 0, 0, 0, 1, 0, 0, place, 0, 0), place == 8 ? 0 : SCRIPTS);
            due(check, "FEATURE at " + place, Part.of(1, 0, NOTHING, 20, NOTHING,
                    0, 65535, 0, 0, 0, 1, 0, 0, place, 0, 0), place == 8 ? 0 : FEATURES);
        }
        for (int place : new int[] {4, back - 10, 65535, 32768}) {
            due(check, "LOOKUP at " + place, Part.of(1, 0, NOTHING, NOTHING, 20,
                    1, 0, 0, 0, 0, 1, place, 1, 0, 0), place == 4 ? 1 : LOOKUPS);
        }
        for (int place : new int[] {8, back - 24, 65535, 32768}) {
            due(check, "subtable at " + place, Part.of(1, 0, NOTHING, NOTHING, 30,
                    1, 6, 0, 1, 0, 0, 0, 0, 0, 0, 1, 4, 1, 0, 1, place, 1, 6, 0, 1, 0),
                    place == 8 ? 1 : LOOKUPS);
        }
        for (int place : new int[] {6, back - 26, 65535, 32768}) {
            due(check, "COVERAGE at " + place, Part.of(1, 0, NOTHING, NOTHING, 30,
                    1, 6, 0, 1, 0, 0, 0, 0, 0, 0, 1, 4, 1, 0, 1, 8, 1, place, 0, 1, 0),
                    place == 6 ? 1 : LOOKUPS);
        }
        placesInHeadHaveNoSign(check);
        placesNeverLeadBack(check);
    }

    private static void placesNeverLeadBack(Check check) {
        Part l = Fonts.language(65535);
        Part s = Fonts.script(l, 1, Fonts.language(65535));
        Tables.neverBack(check, "SCRIPT", Tables.withScript(s), s, SCRIPTS);
        Tables.neverBack(check, "standard LANGUAGE", Tables.withScript(s), l, SCRIPTS);
        s = Fonts.script(null, 1, l);
        Tables.neverBack(check, "LANGUAGE", Tables.withScript(s), l, SCRIPTS);
        Part f = Fonts.feature(1);
        Tables.neverBack(check, "FEATURE",
                Tables.withFeatures(Fonts.tagged(new Part(), 1, f)), f, FEATURES);
        Part single = Fonts.widening(1, 1);
        Part lookup = Fonts.lookup(1, 0, single);
        Tables.neverBack(check, "LOOKUP", Tables.withLookups(lookup), lookup, LOOKUPS);
        Tables.neverBack(check, "subtable", Tables.withLookups(lookup), single, LOOKUPS);
        Part nine = Part.of(1, 1).far(single);
        lookup = Fonts.lookup(9, 0, nine);
        Tables.neverBack(check, "subtable of TYPE 9", Tables.withLookups(lookup), nine, LOOKUPS);
        Tables.neverBack(check, "true subtable", Tables.withLookups(lookup), single, LOOKUPS);
    }

    private static void placesInHeadHaveNoSign(Check check) {
        int[] due = {SCRIPTS, FEATURES, LOOKUPS};
        for (int k = 0; k < 3; k++) {
            for (int place : new int[] {32768, 65535, 11, 10}) {
                int[] head = {1, 0, NOTHING, NOTHING, NOTHING, 0};
                head[2 + k] = place;
                due(check, "place " + place + " in HEAD", Part.of(head), place == 10 ? 0 : due[k]);
            }
        }
    }

    private static void allMustLie(Check check) {
        byte[] least = Part.of(1, 0, NOTHING, NOTHING, NOTHING).bytes();
        check.due("HEAD has 10 bytes", Tables.load(least), 0);
        for (int size = 0; size < 10; size++) {
            check.due("HEAD of " + size, Tables.load(Arrays.copyOf(least, size)), HEAD);
        }
        Part none = Tables.none();
        Tables.needed(check, "SCRIPTS", Part.of(1, 0).to(none).u16(2, 2), none, SCRIPTS);
        Tables.needed(check, "FEATURES", Part.of(1, 0, 2).to(none).u16(2), none, FEATURES);
        Tables.needed(check, "LOOKUPS", Part.of(1, 0, 2, 2).to(none), none, LOOKUPS);
        // A SCRIPT, a LANGUAGE and a FEATURE that stand in the tag before their place.
        Part script = Part.of(1).u32(0).u16(2);
        Tables.needed(check, "a tag and a place",
                Part.of(1, 0).to(script).u16(2, 2), script, SCRIPTS);
        Part language = Part.of(0, 1).u32(0xffff0000).u16(2);
        Tables.needed(check, "SCRIPT", Tables.withScript(language), language, SCRIPTS);
        Part feature = Part.of(1).u32(0).u16(2);
        Tables.needed(check, "a tag and a place",
                Part.of(1, 0, 2).to(feature).u16(2), feature, FEATURES);
        // Each LOOKUP is the beginning of the LOOKUPS: TYPE 3, FLAG 0, no subtable.
        Part lookups = Part.of(3, 0, 0, 0);
        Tables.needed(check, "places of LOOKUPS",
                Part.of(1, 0, 2, 2).to(lookups), lookups, LOOKUPS);
        // Its subtable is itself: form 1, an empty COVERAGE, bits 1, a VALUE.
        Part lookup = Part.of(1, 0, 1, 0);
        Tables.needed(check, "places of subtables", Tables.withLookups(lookup), lookup, LOOKUPS);
        Part sixteen = Part.of(1, 0, 16).u16(new int[16]);
        Tables.needed(check, "16 of them", Tables.withLookups(sixteen), sixteen, LOOKUPS);
        leavesMustLie(check);
        everyCut(check);
    }

    private static void leavesMustLie(Check check) {
        Part language = Fonts.language(1, 0, 2);
        Tables.needed(check, "LANGUAGE", Tables.withScript(Fonts.script(null, 5, language)),
                language, SCRIPTS);
        Tables.needed(check, "standard LANGUAGE", Tables.withScript(Fonts.script(language)),
                language, SCRIPTS);
        Part script = Fonts.script(null);
        Tables.needed(check, "SCRIPT", Tables.withScript(script), script, SCRIPTS);
        Part feature = Fonts.feature(1, 0);
        Tables.needed(check, "FEATURE", Tables.withFeatures(Fonts.tagged(new Part(), 7, feature)),
                feature, FEATURES);
        Part lookup = Fonts.lookup(9, 0);
        Tables.needed(check, "LOOKUP", Tables.withLookups(lookup), lookup, LOOKUPS);
    }

    /** HEAD has 10 bytes, SCRIPTS 8, SCRIPT 4, LANGUAGE 8, FEATURES 8, FEATURE 6, LOOKUPS 4. */
    private static void everyCut(Check check) {
        Part single = Fonts.single(Fonts.covers(1), 1, 5);
        Part scripts = Fonts.tagged(new Part(), 1, Fonts.script(Fonts.language(0, 0)));
        byte[] font = Fonts.head(scripts, Fonts.tagged(new Part(), 1, Fonts.feature(0)),
                Fonts.lookups(Fonts.far(1, 0, single))).bytes();
        check.due("whole", Tables.load(font), 1);
        for (int size = 0; size < font.length; size++) {
            int due = size < 10 ? HEAD : size < 32 ? SCRIPTS : size < 46 ? FEATURES : LOOKUPS;
            check.due("cut to " + size, Tables.load(Arrays.copyOf(font, size)), due);
        }
    }

    private static void allThatAreLedTo(Check check) {
        Part good = Fonts.language(65535);
        Part wrong = Fonts.language(3);
        Part s = Fonts.script(good, 1, good);
        for (Part bad : new Part[] {Fonts.script(wrong, 1, good, 2, good),
            Fonts.script(good, 1, wrong, 2, good), Fonts.script(good, 1, good, 2, wrong)}) {
            due(check, "in the first SCRIPT",
                    Tables.withScripts(Fonts.tagged(new Part(), 1, bad, 2, s)), SCRIPTS);
            due(check, "in the last SCRIPT",
                    Tables.withScripts(Fonts.tagged(new Part(), 1, s, 2, s, 3, bad)), SCRIPTS);
        }
        Part f = Fonts.feature();
        due(check, "the last FEATURE, which no language has",
                Tables.withFeatures(Fonts.tagged(new Part(), 1, f, 2, Fonts.feature(2))), FEATURES);
        Part l = Fonts.wider(1, 1);
        due(check, "the last LOOKUP, which no feature has",
                Tables.withLookups(l, l, Fonts.lookup(7, 0)), LOOKUPS);
        Part single = Fonts.widening(1, 1);
        due(check, "the last subtable", Tables.withLookups(l,
                Fonts.lookup(1, 0, single, single, Fonts.single(single, 256))), LOOKUPS);
        due(check, "one part led to from all sides", Tables.withLookups(l, l,
                Fonts.lookup(1, 0, single, single)), 3);
        byte[] font = Tables.withLookups(l).bytes();
        byte[] more = Arrays.copyOf(font, font.length + 100);
        Arrays.fill(more, font.length, more.length, (byte) -1);
        check.due("what nothing leads to does not matter", Tables.load(more), 1);
    }

    private static void firstInOrder(Check check) {
        Part badScripts = Fonts.tagged(new Part(), 1, Fonts.script(Fonts.language(1)));
        Part badFeatures = Fonts.tagged(new Part(), 1, Fonts.feature(1));
        Part badLookups = Fonts.lookups(Fonts.lookup(7, 0));
        Part scripts = Fonts.tagged(new Part(), 1, Fonts.script(Fonts.language(0)));
        Part features = Fonts.tagged(new Part(), 1, Fonts.feature(0));
        Part lookups = Fonts.lookups(Fonts.lookup(1, 0));
        for (int wrong = 0; wrong < 8; wrong++) {
            Part s = (wrong & 1) != 0 ? badScripts : scripts;
            Part f = (wrong & 2) != 0 ? badFeatures : features;
            Part l = (wrong & 4) != 0 ? badLookups : lookups;
            int due = s == badScripts ? SCRIPTS : f == badFeatures ? FEATURES
                    : l == badLookups ? LOOKUPS : 1;
            due(check, "wrong " + wrong, Fonts.head(s, f, l), due);
            due(check, "HEAD and wrong " + wrong, Part.of(1, 1).to(s, f, l), HEAD);
        }
    }

    private static void oneAndZero(Check check) {
        for (int number : new int[] {0, 1, 2, 256, 257, 65535}) {
            due(check, "first " + number, Part.of(number, 0, 10, 10, 10, 0),
                    number == 1 ? 0 : HEAD);
            due(check, "second " + number, Part.of(1, number, 10, 10, 10, 0),
                    number == 0 ? 0 : HEAD);
        }
    }

    private static void noneOfThemZero(Check check) {
        due(check, "no place 0", Part.of(1, 0, 10, 10, 10, 0), 0);
        due(check, "SCRIPTS at 0", Part.of(1, 0, 0, 10, 10, 0), HEAD);
        due(check, "FEATURES at 0", Part.of(1, 0, 10, 0, 10, 0), HEAD);
        due(check, "LOOKUPS at 0", Part.of(1, 0, 10, 10, 0, 0), HEAD);
        due(check, "all at 0", Part.of(1, 0, 0, 0, 0, 0), HEAD);
        // Low and high bytes of a place both count: 256 is not 0, but outside.
        due(check, "SCRIPTS at 256", Part.of(1, 0, 256, 10, 10, 0), SCRIPTS);
    }

    /** n is one more than what is there: the last one has its tag in what comes behind. */
    private static void asManyScripts(Check check) {
        for (int n = 0; n <= 3; n++) {
            byte[] table = Part.of(1, 0, 10, NOTHING, NOTHING, n).u32(1).u16(14).u32(2).u16(14)
                    .u16(0, 0).bytes();
            check.due(n + " of 2", Tables.load(table), n <= 2 ? 0 : SCRIPTS);
        }
        due(check, "a SCRIPT outside", Tables.withScripts(Part.of(1).u32(7).u16(9000)), SCRIPTS);
    }

    /** Pairs of tags that rise, from the lowest byte to the sign. */
    private static final int[][] RISING = {{0, 1}, {1, 2}, {0xff, 0x100}, {0xffff, 0x10000},
        {0xffffff, 0x1000000}, {0x7fffffff, 0x80000000}, {0x80000000, 0xffffffff}, {0, -1},
        {1, 0x80000000}, {-2, -1}};

    private static void tagsOfScriptsRise(Check check) {
        Part s = Fonts.script(null);
        for (int[] r : RISING) {
            due(check, r[0] + " and " + r[1],
                    Tables.withScripts(Fonts.tagged(new Part(), r[0], s, r[1], s)), 0);
            due(check, r[1] + " and " + r[0],
                    Tables.withScripts(Fonts.tagged(new Part(), r[1], s, r[0], s)), SCRIPTS);
            due(check, "twice " + r[0],
                    Tables.withScripts(Fonts.tagged(new Part(), r[0], s, r[0], s)), SCRIPTS);
        }
        due(check, "the last two", Tables.withScripts(
                Fonts.tagged(new Part(), 1, s, 2, s, 3, s, 3, s)), SCRIPTS);
        due(check, "no script", Tables.withScripts(Tables.none()), 0);
    }

    private static void standardLanguage(Check check) {
        Part l = Fonts.language(65535);
        due(check, "none", Tables.withScript(Fonts.script(null)), 0);
        due(check, "one", Tables.withScript(Fonts.script(l)), 0);
        due(check, "none, but another one", Tables.withScript(Fonts.script(null, 1, l)), 0);
        due(check, "a wrong one", Tables.withScript(Fonts.script(Fonts.language(3))), SCRIPTS);
        due(check, "one outside", Tables.withScript(Part.of(9000, 0)), SCRIPTS);
    }

    private static void tagsOfLanguagesRise(Check check) {
        Part l = Fonts.language(65535);
        for (int[] r : RISING) {
            due(check, r[0] + " and " + r[1],
                    Tables.withScript(Fonts.script(null, r[0], l, r[1], l)), 0);
            due(check, r[1] + " and " + r[0],
                    Tables.withScript(Fonts.script(null, r[1], l, r[0], l)), SCRIPTS);
            due(check, "twice " + r[0],
                    Tables.withScript(Fonts.script(l, r[0], l, r[0], l)), SCRIPTS);
        }
        due(check, "one outside", Tables.withScript(Part.of(0, 1).u32(7).u16(9000)), SCRIPTS);
    }

    private static void languageBeginsWithAnything(Check check) {
        for (int first : new int[] {0, 1, 32768, 65535}) {
            due(check, "standard, " + first,
                    Tables.withScript(Fonts.script(Part.of(first, 65535, 0))), 0);
            due(check, "other, " + first,
                    Tables.withScript(Fonts.script(null, 1, Part.of(first, 65535, 0))), 0);
        }
    }

    private static void required(Check check) {
        for (int number : new int[] {0, 2, 3, 4, 32768, 65534, 65535}) {
            int due = number < 3 || number == 65535 ? 0 : SCRIPTS;
            due(check, "standard requires " + number,
                    Tables.withScript(Fonts.script(Fonts.language(number))), due);
            due(check, "other requires " + number,
                    Tables.withScript(Fonts.script(null, 1, Fonts.language(number, 0))), due);
        }
        Part scripts = Fonts.tagged(new Part(), 1, Fonts.script(Fonts.language(65535)));
        due(check, "none of no features",
                Fonts.head(scripts, Tables.none(), Tables.none()), 0);
        scripts = Fonts.tagged(new Part(), 1, Fonts.script(Fonts.language(0)));
        due(check, "the first of no features",
                Fonts.head(scripts, Tables.none(), Tables.none()), SCRIPTS);
    }

    private static void asManyFeatures(Check check) {
        for (int n = 0; n <= 4; n++) {
            Part language = Part.of(0, 65535, n, 0, 1, 2, 3);
            due(check, n + " of 3", Tables.withScript(Fonts.script(language)),
                    n <= 3 ? 0 : SCRIPTS);
            due(check, n + " of 3", Tables.withScript(Fonts.script(null, 1, language)),
                    n <= 3 ? 0 : SCRIPTS);
        }
    }

    private static void numbersOfFeatures(Check check) {
        for (int number : new int[] {0, 2, 3, 32768, 65534, 65535}) {
            int due = number < 3 ? 0 : SCRIPTS;
            due(check, "standard has " + number,
                    Tables.withScript(Fonts.script(Fonts.language(65535, number))), due);
            due(check, "first " + number,
                    Tables.withScript(Fonts.script(null, 1, Fonts.language(0, number, 0))), due);
            due(check, "last " + number,
                    Tables.withScript(Fonts.script(null, 1, Fonts.language(0, 0, number))), due);
        }
        // That there are too many features is a fault of FEATURES, not of what is below.
        Part scripts = Fonts.tagged(new Part(), 1, Fonts.script(Fonts.language(999, 999)));
        due(check, "below 1000", Fonts.head(scripts, Part.of(1000), Tables.none()), FEATURES);
        due(check, "not below 999", Fonts.head(scripts, Part.of(999), Tables.none()), SCRIPTS);
    }

    /** FEATURES in the last byte do not lie in the table, as far outside they do not. */
    private static void featuresOutside(Check check) {
        Part asks = Fonts.language(65535, 0);
        Part requires = Fonts.language(0);
        Part neither = Fonts.language(65535);
        for (int place : new int[] {37, 38, 65535}) {
            for (Part language : new Part[] {asks, requires, neither}) {
                Part scripts = Fonts.tagged(new Part(), 1, Fonts.script(null, 1, language));
                byte[] table = Part.of(1, 0).to(scripts).u16(place, 2).bytes();
                check.due("FEATURES at " + place + " of 38",
                        Tables.load(Arrays.copyOf(table, 38)),
                        language == neither ? FEATURES : SCRIPTS);
            }
        }
    }

    private static void lookupsOutside(Check check) {
        Part asks = Fonts.tagged(new Part(), 1, Fonts.feature(0));
        Part doesNot = Fonts.tagged(new Part(), 1, Fonts.feature());
        for (int place : new int[] {29, 30, 65535}) {
            byte[] table = Part.of(1, 0, 2).to(asks).u16(place).bytes();
            check.due("LOOKUPS at " + place + " of 30, asked for",
                    Tables.load(Arrays.copyOf(table, 30)), FEATURES);
            table = Part.of(1, 0, 2).to(doesNot).u16(place).bytes();
            check.due("LOOKUPS at " + place + " of 30",
                    Tables.load(Arrays.copyOf(table, 30)), LOOKUPS);
        }
    }

    private static void tagsOfFeatures(Check check) {
        Part f = Fonts.feature(0);
        for (int[] r : RISING) {
            due(check, r[0] + " and " + r[1],
                    Tables.withFeatures(Fonts.tagged(new Part(), r[0], f, r[1], f)), 2);
            due(check, r[1] + " and " + r[0],
                    Tables.withFeatures(Fonts.tagged(new Part(), r[1], f, r[0], f)), FEATURES);
            due(check, "twice " + r[0],
                    Tables.withFeatures(Fonts.tagged(new Part(), r[0], f, r[0], f)), 2);
        }
        due(check, "the last two", Tables.withFeatures(
                Fonts.tagged(new Part(), 1, f, 2, f, 2, f, 1, f)), FEATURES);
        due(check, "no feature", Tables.withFeatures(Tables.none()), 2);
        due(check, "one outside", Tables.withFeatures(Part.of(1).u32(7).u16(9000)), FEATURES);
    }

    private static void featureBeginsWithAnything(Check check) {
        for (int first : new int[] {0, 1, 32768, 65535}) {
            due(check, "" + first,
                    Tables.withFeatures(Fonts.tagged(new Part(), 1, Part.of(first, 0))), 2);
        }
    }

    private static void numbersOfLookups(Check check) {
        for (int number : new int[] {0, 1, 2, 3, 32768, 65535}) {
            int due = number < 2 ? 2 : FEATURES;
            due(check, "first " + number, Tables.withFeatures(
                    Fonts.tagged(new Part(), 1, Fonts.feature(number, 0))), due);
            due(check, "last " + number, Tables.withFeatures(
                    Fonts.tagged(new Part(), 1, Fonts.feature(0, number))), due);
        }
        Part features = Fonts.tagged(new Part(), 1, Fonts.feature(999));
        due(check, "below 1000", Fonts.head(Tables.none(), features, Part.of(1000)), LOOKUPS);
        due(check, "not below 999", Fonts.head(Tables.none(), features, Part.of(999)), FEATURES);
        features = Fonts.tagged(new Part(), 1, Fonts.feature(0));
        due(check, "of none", Fonts.head(Tables.none(), features, Tables.none()), FEATURES);
    }

    private static void asManyLookups(Check check) {
        Part l = Fonts.lookup(1, 0);
        for (int n = 0; n <= 3; n++) {
            due(check, n + " of 2", Part.of(1, 0, NOTHING, NOTHING).to(
                    Part.of(n).to(l, l).u16(9000)), n <= 2 ? n : LOOKUPS);
        }
    }

    private static void asManySubtables(Check check) {
        Part single = Fonts.widening(1, 1);
        for (int n = 0; n <= 3; n++) {
            due(check, n + " of 2", Tables.withLookups(
                    Part.of(1, 0, n).to(single, single).u16(9000)), n <= 2 ? 1 : LOOKUPS);
        }
    }

    private static void types(Check check) {
        for (int type = 0; type <= 300; type++) {
            boolean asSaid = type >= 1 && type <= 6 || type == 9;
            due(check, "TYPE " + type, Tables.withLookups(Fonts.lookup(type, 0)),
                    asSaid ? 1 : LOOKUPS);
        }
        due(check, "TYPE 65535", Tables.withLookups(Fonts.lookup(65535, 0)), LOOKUPS);
    }

    private static void bitFourOfFlag(Check check) {
        for (int bit = 0; bit < 16; bit++) {
            due(check, "bit " + bit, Tables.withLookups(Fonts.lookup(1, 1 << bit)),
                    bit == 4 ? LOOKUPS : 1);
        }
        due(check, "all but that", Tables.withLookups(Fonts.lookup(1, 0xffef)), 1);
        due(check, "all", Tables.withLookups(Fonts.lookup(1, 0xffff)), LOOKUPS);
    }

    /** TYPES 1 and 2 have two forms, the others one. */
    private static void forms(Check check) {
        Part c = Fonts.covers();
        Part none = Tables.none();
        for (int form : new int[] {0, 1, 2, 3, 257, 65535}) {
            boolean one = form == 1;
            boolean two = one || form == 2;
            dueForm(check, 1, form, two, Part.of(form).to(c).u16(0, 0));
            Part noClasses = Fonts.classes(0);
            dueForm(check, 2, form, two, Part.of(form).to(c).u16(0, 0)
                    .to(form == 1 ? null : noClasses, noClasses).u16(0, 0));
            dueForm(check, 3, form, one, Part.of(form).to(c).u16(0));
            for (int type = 4; type <= 6; type++) {
                dueForm(check, type, form, one,
                        Part.of(form).to(c, c).u16(0).to(none, none));
            }
        }
    }

    private static void dueForm(Check check, int type, int form, boolean asSaid, Part subtable) {
        due(check, "TYPE " + type + ", form " + form, Tables.withSubtable(type, subtable),
                asSaid ? 1 : LOOKUPS);
        due(check, "TYPE 9 for " + type + ", form " + form,
                Tables.withLookups(Fonts.far(type, 0, subtable)), asSaid ? 1 : LOOKUPS);
    }

    private static void extensionForm(Check check) {
        Part single = Fonts.widening(1, 1);
        for (int form : new int[] {0, 1, 2, 3, 257, 65535}) {
            Part subtable = Part.of(form, 1).far(single);
            due(check, "form " + form, Tables.withSubtable(9, subtable), form == 1 ? 1 : LOOKUPS);
            due(check, "second of form " + form, Tables.withLookups(
                    Fonts.lookup(9, 0, Part.of(1, 1).far(single), subtable)),
                    form == 1 ? 1 : LOOKUPS);
        }
    }

    private static void extensionType(Check check) {
        Part c = Fonts.covers();
        Part none = Tables.none();
        Part all = Part.of(1).to(c, c).u16(0).to(none, none);
        Part[] subtables = {all, Fonts.single(c, 0), Fonts.pairs(c, 0, 0), Fonts.cursive(c),
            all, all, all, all, all, all};
        for (int type = 0; type <= 9; type++) {
            due(check, "for TYPE " + type, Tables.withLookups(
                    Fonts.far(type, 0, subtables[type])), type >= 1 && type <= 6 ? 1 : LOOKUPS);
            for (int other = 1; other <= 6; other++) {
                Part lookup = Fonts.lookup(9, 0, Part.of(1, other).far(subtables[other]),
                        Part.of(1, other).far(subtables[other]),
                        Part.of(1, type).far(subtables[type]));
                due(check, other + ", " + other + ", " + type, Tables.withLookups(lookup),
                        type == other ? 1 : LOOKUPS);
            }
        }
        due(check, "another type in another lookup", Tables.withLookups(
                Fonts.far(1, 0, subtables[1]), Fonts.far(2, 0, subtables[2])), 2);
        due(check, "no subtable", Tables.withLookups(Fonts.lookup(9, 0)), 1);
    }

    /** The subtable at 10 would be led to if a place wrapped, or lost its high bytes. */
    private static void extensionPlace(Check check) {
        int[][] places = {{0, 8}, {0, 8193}, {1, 8}, {0x100, 8}, {0x8000, 8}, {0xffff, 8},
            {0xffff, 65536 - 34}, {0, 65536 - 34}, {0xffff, 0xffff}, {0x7fff, 0xffff},
            {0x8000, 0}};
        for (int[] place : places) {
            due(check, place[0] + ", " + place[1], extension(place[0], place[1]),
                    place == places[0] ? 1 : LOOKUPS);
        }
    }

    /** One lookup of TYPE 9, whose true subtable stands 8 bytes behind its own, and at 10. */
    private static Part extension(int highOfPlace, int lowOfPlace) {
        return Part.of(1, 0, NOTHING, NOTHING, 32,
                1, 6, 0, 1, 0, 0, 0, 0, 0, 0, 0, 1, 4, 9, 0, 1, 8,
                1, 1, highOfPlace, lowOfPlace, 1, 6, 0, 1, 0);
    }

    private static void howManyLookups(Check check) {
        for (int many : new int[] {0, 1, 2, 63, 64, 65}) {
            Part[] lookups = new Part[many];
            Arrays.fill(lookups, Fonts.lookup(1, 0));
            due(check, many + " lookups", Tables.withLookups(lookups), many <= 64 ? many : LOOKUPS);
        }
        check.due("HEAD", GlyphPositions.HEAD, -1);
        check.due("SCRIPTS", GlyphPositions.SCRIPTS, -2);
        check.due("FEATURES", GlyphPositions.FEATURES, -3);
        check.due("LOOKUPS", GlyphPositions.LOOKUPS, -4);
    }

    private static int width(GlyphPositions x) {
        x.clear();
        Fonts.glyphs(x, 1).set(false);
        return x.place(0, 0);
    }

    private static void staysLoaded(Check check) {
        GlyphPositions x = Fonts.loaded(Fonts.wider(5, 1));
        check.due("width", width(x), 105);
        Part[] wrong = {Part.of(2, 0, 2, 2, 2), Part.of(1, 0, 99, 2, 2), Part.of(1, 0, 2, 99, 2),
            Part.of(1, 0, 2, 2, 99), new Part()};
        int[] due = {HEAD, SCRIPTS, FEATURES, LOOKUPS, HEAD};
        for (int k = 0; k < wrong.length; k++) {
            Fonts.feed(x, wrong[k].bytes());
            check.due("load()", x.load(), due[k]);
            check.due("width after " + due[k], width(x), 105);
        }
        Fonts.feed(x, Fonts.requiring(Fonts.wider(7, 1), Fonts.wider(8, 1)));
        check.due("load of another one", x.load(), 2);
        check.due("width", width(x), 115);
        Fonts.feed(x, Fonts.requiring());
        check.due("load of a shorter one", x.load(), 0);
        check.due("width", width(x), 100);
    }

    private static void laterBytes(Check check) {
        GlyphPositions x = Fonts.loaded(Fonts.wider(5, 1));
        int size = x.feed(-1) - 4;
        check.due("width", width(x), 105);
        for (int i = 0; i < size; i++) {
            x.put(i, 255);
        }
        check.due("width", width(x), 105);
        x.cut(0);
        check.due("width", width(x), 105);
        x.feed(0);
        check.due("width", width(x), 105);
    }

    private static void staysFed(Check check) {
        byte[] font = Fonts.requiring(Fonts.wider(5, 1));
        GlyphPositions x = Fonts.fed(font);
        check.due("load()", x.load(), 1);
        check.due("load() again", x.load(), 1);
        x.set(false);
        for (int i = 0; i < font.length; i++) {
            check.due("byte " + i, x.put(i, font[i] & 255), font[i] & 255);
        }
        x.put(0, 9);
        check.due("load() of a wrong one", x.load(), HEAD);
        check.due("its byte 0", x.put(0, 0), 9);
        check.due("load()", x.load(), 1);
        check.due("as many bytes", x.cut(0), font.length);
    }
}
