/** Parts of tables as the document says them, and objects that have them. */
final class Fonts {
    static final int DFLT = 0x44464c54;
    static final int LATN = 0x6c61746e;
    static final int KERN = 0x6b65726e;

    private Fonts() {
    }

    static Part head(Part scripts, Part features, Part lookups) {
        return Part.of(1, 0).to(scripts, features, lookups);
    }

    /** Tags and parts in turn, as Integer and Part; behind how many there are. */
    static Part tagged(Part list, Object... tagsAndParts) {
        list.u16(tagsAndParts.length / 2);
        for (int k = 0; k + 1 < tagsAndParts.length; k += 2) {
            list.u32((Integer) tagsAndParts[k]).to((Part) tagsAndParts[k + 1]);
        }
        return list;
    }

    static Part script(Part standard, Object... tagsAndLanguages) {
        return tagged(new Part().to(standard), tagsAndLanguages);
    }

    static Part language(int required, int... features) {
        return Part.of(0, required, features.length).u16(features);
    }

    static Part feature(int... lookups) {
        return Part.of(0, lookups.length).u16(lookups);
    }

    static Part lookups(Part... lookups) {
        return Part.of(lookups.length).to(lookups);
    }

    static Part lookup(int type, int flag, Part... subtables) {
        return Part.of(type, flag, subtables.length).to(subtables);
    }

    /** A lookup of TYPE 9 for subtables of another one. */
    static Part far(int type, int flag, Part... subtables) {
        Part[] places = new Part[subtables.length];
        for (int k = 0; k < places.length; k++) {
            places[k] = Part.of(1, type).far(subtables[k]);
        }
        return lookup(9, flag, places);
    }

    static Part covers(int... glyphs) {
        return Part.of(1, glyphs.length).u16(glyphs);
    }

    /** COVERAGE, form 2: first, last, INDEX in turn. */
    static Part coversRanges(int... ranges) {
        return Part.of(2, ranges.length / 3).u16(ranges);
    }

    static Part classes(int first, int... classes) {
        return Part.of(1, first, classes.length).u16(classes);
    }

    /** CLASSES, form 2: first, last, class in turn. */
    static Part classRanges(int... ranges) {
        return Part.of(2, ranges.length / 3).u16(ranges);
    }

    static Part anchor(int x, int y) {
        return Part.of(1, x, y);
    }

    static Part single(Part coverage, int bits, int... value) {
        return Part.of(1).to(coverage).u16(bits).u16(value);
    }

    /** Makes glyphs wider by so much. */
    static Part widening(int by, int... glyphs) {
        return single(covers(glyphs), 4, by);
    }

    /** A lookup that passes over none, and makes glyphs wider by so much. */
    static Part wider(int by, int... glyphs) {
        return lookup(1, 0, widening(by, glyphs));
    }

    static Part singles(Part coverage, int bits, int many, int... values) {
        return Part.of(2).to(coverage).u16(bits, many).u16(values);
    }

    static Part pairs(Part coverage, int bits, int bitsOfSecond, Part... rows) {
        return Part.of(1).to(coverage).u16(bits, bitsOfSecond, rows.length).to(rows);
    }

    static Part pairClasses(Part coverage, int bits, int bitsOfSecond, Part first, Part second) {
        return Part.of(2).to(coverage).u16(bits, bitsOfSecond).to(first, second);
    }

    /** ENTRY and EXIT in turn, null for none. */
    static Part cursive(Part coverage, Part... anchors) {
        return Part.of(1).to(coverage).u16(anchors.length / 2).to(anchors);
    }

    static Part marksOn(Part marks, Part bases, int c, Part marksPart, Part basesPart) {
        return Part.of(1).to(marks, bases).u16(c).to(marksPart, basesPart);
    }

    /** A mark's class and anchor in turn, as Integer and Part. */
    static Part marks(Object... classesAndAnchors) {
        Part marks = Part.of(classesAndAnchors.length / 2);
        for (int k = 0; k + 1 < classesAndAnchors.length; k += 2) {
            marks.u16((Integer) classesAndAnchors[k]).to((Part) classesAndAnchors[k + 1]);
        }
        return marks;
    }

    static Part bases(int many, Part... anchors) {
        return Part.of(many).to(anchors);
    }

    /** A font whose DFLT script has a standard language that requires all of these lookups. */
    static byte[] requiring(Part... lookups) {
        int[] all = new int[lookups.length];
        for (int k = 0; k < all.length; k++) {
            all[k] = k;
        }
        Part scripts = tagged(new Part(), DFLT, script(language(0)));
        return head(scripts, tagged(new Part(), KERN, feature(all)), lookups(lookups)).bytes();
    }

    /** A new object that was fed all the bytes, and cut where the last word had more. */
    static GlyphPositions fed(byte[] bytes) {
        GlyphPositions x = new GlyphPositions();
        feed(x, bytes);
        return x;
    }

    static void feed(GlyphPositions x, byte[] bytes) {
        x.cut(0);
        for (int i = 0; i < bytes.length; i += 4) {
            int word = 0;
            for (int k = i; k < i + 4; k++) {
                word = word << 8 | (k < bytes.length ? bytes[k] & 255 : 0);
            }
            x.feed(word);
        }
        x.cut(bytes.length);
    }

    static GlyphPositions loaded(Part... lookups) {
        GlyphPositions x = fed(requiring(lookups));
        int got = x.load();
        if (got != lookups.length) {
            throw new IllegalStateException("the font of a test is not as said: " + got);
        }
        return x;
    }

    /** Glyphs with the width 100 each and no part. */
    static GlyphPositions glyphs(GlyphPositions x, int... glyphs) {
        for (int glyph : glyphs) {
            x.add(glyph, 100, 0);
        }
        return x;
    }
}
