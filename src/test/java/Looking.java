import java.util.Arrays;

/** Tables at which LOADING looks as often as it may, or once more. */
final class Looking {
    private static final int MOST = 20000;

    private Looking() {
    }

    /** The lookup, which looks at so many, is the last of 64: with it there are 20,000, or more. */
    static Part table(int looks, Part lookup, int more) {
        Part[] lookups = new Part[64];
        Part twenty = at(20);
        Part[] subtables = new Part[16];
        Arrays.fill(subtables, twenty);
        Arrays.fill(lookups, 0, 62, Fonts.lookup(3, 0, subtables));
        int rest = MOST - looks + more - 62 * 16 * 20;
        subtables = new Part[(rest + 19) / 20];
        Arrays.fill(subtables, twenty);
        if (rest % 20 != 0) {
            subtables[subtables.length - 1] = at(rest % 20);
        }
        lookups[62] = Fonts.lookup(3, 0, subtables);
        lookups[63] = lookup;
        return Tables.withLookups(lookups);
    }

    /** Just 20,000 with the lookup are as said, one more in front of it is not. */
    static void exactly(Check check, String lookup, int looks, Part part) {
        check.due(lookup + ", 20,000 in all", Tables.load(table(looks, part, 0)), 64);
        check.due(lookup + ", 20,001 in all", Tables.load(table(looks, part, 1)),
                GlyphPositions.LOOKUPS);
    }

    /** A COVERAGE, and ANCHORS for the rest. */
    private static Part at(int many) {
        Part[] anchors = new Part[20];
        Arrays.fill(anchors, 0, many - 1, Fonts.anchor(1, 2));
        return Fonts.cursive(Fonts.coversRanges(1, 10, 0), anchors);
    }
}
