import java.util.Arrays;

/** Whole tables round the part that a test is about, and what load answers of them. */
final class Tables {
    private Tables() {
    }

    static int load(byte[] bytes) {
        return Fonts.fed(bytes).load();
    }

    static int load(Part head) {
        return load(head.bytes());
    }

    static Part none() {
        return Part.of(0);
    }

    /** With three features, and no lookups. */
    static Part withScripts(Part scripts) {
        Part features = Fonts.tagged(new Part(), 1, Fonts.feature(), 2, Fonts.feature(),
                3, Fonts.feature());
        return Fonts.head(scripts, features, none());
    }

    static Part withScript(Part script) {
        return withScripts(Fonts.tagged(new Part(), 1, script));
    }

    /** With two lookups, and no scripts. */
    static Part withFeatures(Part features) {
        return Fonts.head(none(), features, Fonts.lookups(Fonts.lookup(1, 0), Fonts.lookup(2, 0)));
    }

    static Part withLookups(Part... lookups) {
        return Fonts.head(none(), none(), Fonts.lookups(lookups));
    }

    static Part withSubtable(int type, Part subtable) {
        return withLookups(Fonts.lookup(type, 0, subtable));
    }

    /** As many as that, with the tags 0, 1, 2 and so on. */
    static Part tagged(Part list, int many, Part part) {
        Object[] tagged = new Object[2 * many];
        for (int k = 0; k < many; k++) {
            tagged[2 * k] = k;
            tagged[2 * k + 1] = part;
        }
        return Fonts.tagged(list, tagged);
    }

    /** As said where the part stands behind what leads to it, but not where it stands before. */
    static void neverBack(Check check, String part, Part head, Part early, int due) {
        check.due(part + " behind", load(head) >= 0 ? 1 : 0, 1);
        check.due(part + " before", load(head.bytesWithEarly(early)), due);
    }

    /** The part stands at the end of the table; each of its bytes is needed. */
    static void needed(Check check, String part, Part head, Part last, int due) {
        byte[] whole = head.bytesEndingWith(last);
        check.due(part + ": all of it", load(whole) >= 0 ? 1 : 0, 1);
        for (int less = 1; less <= last.size(); less++) {
            check.due(part + ": less by " + less,
                    load(Arrays.copyOf(whole, whole.length - less)), due);
        }
    }
}
