import java.util.Arrays;

/** Promises 12 and 13: what lookups of each type do to a run, and how a place is told. */
public final class SetTest {
    private static final int NONE = GlyphPositions.NONE;
    private static final Check CHECK = new Check("SetTest");

    public static void main(String[] args) {
        refuses();
        places();
        single();
        firstSubtableThatTakes();
        pairs();
        pairsGoOn();
        pairClasses();
        cursive();
        cursiveChain();
        marksOnBases();
        marksBack();
        ligatures();
        marksOnMarks();
        hangsByOne();
        hangsOnWhatHangs();
        byRisingNumbers();
        wraps();
        CHECK.end();
    }

    private static void due(String run, GlyphPositions x, int i, int... due) {
        CHECK.placed(run, x, i, due);
    }

    private static void refuses() {
        GlyphPositions x = new GlyphPositions();
        x.add(1, 1, 0);
        CHECK.refused("set", IllegalStateException.class, () -> x.set(true));
        CHECK.refused("place", IndexOutOfBoundsException.class, () -> x.place(0, 0));
        GlyphPositions y = Fonts.glyphs(Fonts.loaded(), 1, 2);
        CHECK.refused("before set", IndexOutOfBoundsException.class, () -> y.place(0, 0));
        CHECK.due("set", y.set(false), 2);
        int[][] wrong = {{-1, 0}, {2, 0}, {0, -1}, {0, 6}, {Integer.MIN_VALUE, 0},
            {Integer.MAX_VALUE, 5}, {1, Integer.MAX_VALUE}, {1, Integer.MIN_VALUE}};
        for (int[] w : wrong) {
            CHECK.refused("place(" + w[0] + ", " + w[1] + ")", IndexOutOfBoundsException.class,
                    () -> y.place(w[0], w[1]));
        }
        due("as told", y, 1, 100, 0, 0, 0, 100, NONE);
    }

    private static void places() {
        Part all = Fonts.single(Fonts.covers(2), 15, 1, -2, 3, -4);
        GlyphPositions x = Fonts.loaded(Fonts.lookup(1, 0, all));
        x.add(2, 10, 0);
        x.add(5, 20, 0);
        x.add(2, 30, 0);
        CHECK.due("set", x.set(false), 3);
        due("one", x, 0, 13, -4, 1, -2, 1, NONE);
        due("two", x, 1, 20, 0, 0, 0, 13, NONE);
        due("three", x, 2, 33, -4, 1, -2, 34, NONE);
        x.clear();
        x.forget();
        due("whatever was told since", x, 2, 33, -4, 1, -2, 34, NONE);
        x.add(2, 0, 0);
        CHECK.due("set", x.set(true), 1);
        due("anew", x, 0, 3, -4, 1, -2, 1, NONE);
        CHECK.refused("gone", IndexOutOfBoundsException.class, () -> x.place(1, 0));
    }

    private static void single() {
        Part some = Fonts.single(Fonts.covers(1, 2), 0xf6, 7, 8, 99, 99, 99, 99);
        Part each = Fonts.singles(Fonts.coversRanges(3, 4, 0, 6, 6, 2), 0x18,
                3, 1, 99, 2, 99, 3, 99);
        GlyphPositions x = Fonts.loaded(Fonts.lookup(1, 0, some, each));
        Fonts.glyphs(x, 1, 2, 3, 4, 5, 6).set(false);
        due("for all", x, 0, 108, 0, 0, 7);
        due("for all", x, 1, 108, 0, 0, 7);
        due("index 0", x, 2, 100, 1, 0, 0);
        due("index 1", x, 3, 100, 2, 0, 0);
        due("not covered", x, 4, 100, 0, 0, 0);
        due("index 2", x, 5, 100, 3, 0, 0);
    }

    private static void firstSubtableThatTakes() {
        Part one = Fonts.single(Fonts.covers(1), 4, 1);
        Part two = Fonts.single(Fonts.covers(1, 2), 4, 2);
        GlyphPositions x = Fonts.loaded(Fonts.far(1, 0, one, two));
        Fonts.glyphs(x, 1, 2).set(false);
        due("the first one", x, 0, 101);
        due("the second one", x, 1, 102);
    }

    private static void pairs() {
        Part row = Part.of(2, 20, -5, 21, -7);
        Part other = Part.of(1, 10, 3);
        Part pairs = Fonts.pairs(Fonts.covers(10, 20), 4, 0, row, other);
        GlyphPositions x = Fonts.loaded(Fonts.lookup(2, 8, pairs));
        x.kind(60, 60, 3, 0);
        Fonts.glyphs(x, 10, 20, 10, 60, 21, 10, 22, 10).set(false);
        int[] widths = {95, 103, 93, 100, 100, 100, 100, 100};
        for (int i = 0; i < widths.length; i++) {
            due("pairs", x, i, widths[i]);
        }
        // Where the row has no such glyph, the next subtable is asked.
        Part last = Fonts.pairs(Fonts.covers(10), 1, 0, Part.of(1, 22, 9));
        GlyphPositions y = Fonts.loaded(Fonts.lookup(2, 0, pairs, last));
        Fonts.glyphs(y, 10, 22, 10, 60, 21).set(false);
        due("by the second subtable", y, 0, 100, 0, 9);
        due("nothing is passed over", y, 2, 100, 0, 0);
    }

    private static void pairsGoOn() {
        Part row = Part.of(1, 1, 10, 1000);
        Part both = Fonts.pairs(Fonts.covers(1), 4, 4, row);
        GlyphPositions x = Fonts.loaded(Fonts.lookup(2, 8, both));
        x.kind(9, 9, 3, 0);
        Fonts.glyphs(x, 1, 9, 1, 1, 9, 9, 1, 1).set(false);
        int[] widths = {110, 100, 1100, 110, 100, 100, 1100, 100};
        for (int i = 0; i < widths.length; i++) {
            due("behind the second", x, i, widths[i]);
        }
        // A bit that changes nothing counts, too.
        Part idle = Fonts.pairs(Fonts.covers(1), 4, 128, row);
        GlyphPositions y = Fonts.glyphs(Fonts.loaded(Fonts.lookup(2, 0, idle)), 1, 1, 1, 1);
        y.set(false);
        int[] due = {110, 100, 110, 100};
        for (int i = 0; i < due.length; i++) {
            due("bit 7", y, i, due[i]);
        }
    }

    private static void pairClasses() {
        Part first = Fonts.classes(30, 1, 2);
        Part second = Fonts.classRanges(40, 41, 1, 45, 50, 2);
        Part pairs = Fonts.pairClasses(Fonts.covers(29, 30, 31), 4, 0, first, second)
                .u16(2, 2).u16(1, 2, 3, 4);
        GlyphPositions x = Fonts.loaded(Fonts.lookup(2, 0, pairs));
        Fonts.glyphs(x, 29, 39, 29, 40, 30, 42, 30, 41, 31, 40, 30, 45, 28, 40, 30).set(true);
        int[] widths = {101, 100, 102, 100, 103, 100, 104, 100, 100, 100, 100, 100, 100, 100, 100};
        for (int i = 0; i < widths.length; i++) {
            due("classes", x, i, widths[i]);
        }
    }

    private static Part joining() {
        return Fonts.cursive(Fonts.covers(1, 2, 3),
                Fonts.anchor(5, 20), Fonts.anchor(80, 50),
                Fonts.anchor(7, 30), null,
                null, Fonts.anchor(90, 10));
    }

    private static void cursive() {
        Part moved = Fonts.single(Fonts.covers(1, 2), 3, 4, 6);
        GlyphPositions x = Fonts.loaded(Fonts.lookup(1, 0, moved), Fonts.lookup(3, 0, joining()));
        Fonts.glyphs(x, 1, 2);
        x.set(false);
        due("exit", x, 0, 84, 0, 4, 6, 4, NONE);
        // 7 and 4 are taken; up: 6 of its own, 50 - 30, and 6 of the other.
        due("entry", x, 1, 89, 0, -7, 32, 77, 0);
        x.set(true);
        due("exit, back", x, 0, 16, 0, -80, 6, -80, NONE);
        due("entry, back", x, 1, 11, 0, 4, 32, 20, 0);
        x.clear();
        Fonts.glyphs(x, 2, 1, 3, 9, 1).set(false);
        for (int i = 0; i < 5; i++) {
            due("not joined", x, i, 100);
            CHECK.due("hangs on nothing", x.place(i, 5), NONE);
        }
    }

    private static void cursiveChain() {
        GlyphPositions x = Fonts.loaded(Fonts.lookup(3, 9, joining()));
        x.kind(9, 9, 3, 0);
        Fonts.glyphs(x, 3, 9, 1, 2).set(false);
        due("first", x, 0, 90, 0, 0, 0, 0, NONE);
        due("passed over", x, 1, 100, 0, 0, 0, 90, NONE);
        // Its entry takes 5, then its exit sets the width anew: 80 and -5.
        due("second", x, 2, 75, 0, -5, -10, 185, 0);
        due("third", x, 3, 93, 0, -7, 10, 258, 2);
    }

    private static Part onBases() {
        return Fonts.marksOn(Fonts.covers(60, 61), Fonts.covers(50, 51), 2,
                Fonts.marks(0, Fonts.anchor(10, 1), 1, Fonts.anchor(20, 2)),
                Fonts.bases(2, Fonts.anchor(300, 700), null,
                        Fonts.anchor(310, 710), Fonts.anchor(-320, -720)));
    }

    private static void marksOnBases() {
        Part moved = Fonts.single(Fonts.covers(50, 60), 15, 3, 4, 5, 6);
        GlyphPositions x = Fonts.loaded(Fonts.lookup(1, 0, moved), Fonts.lookup(4, 0, onBases()));
        x.kind(60, 69, 3, 1);
        Fonts.glyphs(x, 60, 50, 60, 61, 65, 60, 51, 61, 9, 60).set(false);
        due("nothing before it", x, 0, 105, 6, 3, 4, 3, NONE);
        due("base", x, 1, 105, 6, 3, 4, 108, NONE);
        // It is moved by 300 - 10 and 3, less 105; up by 700 - 1 and 4, less 6.
        due("mark", x, 2, 105, 6, 188, 697, 398, 1);
        due("no anchor for its class", x, 3, 100, 0, 0, 0, 315, NONE);
        due("not covered", x, 4, 100, 0, 0, 0, 415, NONE);
        due("behind other marks", x, 5, 105, 6, 293 - 410, 703 - 12, 515 - 117, 1);
        due("second base", x, 7, 100, 0, -340 - 100, -722, 720 - 440, 6);
        due("not covered as a base", x, 9, 105, 6, 3, 4, 923, NONE);
        // By KIND none is a mark now, so the one before it is just that.
        x.forget();
        x.set(false);
        CHECK.due("hangs", x.place(2, 5), 1);
        CHECK.due("the one before is no base", x.place(5, 5), NONE);
    }

    private static void marksBack() {
        Part moved = Fonts.single(Fonts.covers(50, 60), 15, 3, 4, 5, 6);
        GlyphPositions x = Fonts.loaded(Fonts.lookup(1, 0, moved), Fonts.lookup(4, 0, onBases()));
        x.kind(60, 69, 3, 1);
        Fonts.glyphs(x, 50, 65, 60).set(true);
        // Widths of 65 and of itself are added, and what they are higher.
        due("mark", x, 2, 105, 6, 293 + 205, 703 + 6, 205 + 498, 0);
        // FLAG does not matter for what comes before, but it does for the mark.
        GlyphPositions y = Fonts.loaded(Fonts.lookup(4, 2, onBases()));
        y.kind(60, 69, 3, 1);
        y.kind(50, 50, 1, 0);
        Fonts.glyphs(y, 50, 60).set(false);
        CHECK.due("bases are passed over", y.place(1, 5), 0);
        GlyphPositions z = Fonts.loaded(Fonts.lookup(4, 0x200, onBases()));
        z.kind(60, 60, 3, 1);
        z.kind(61, 61, 3, 2);
        Fonts.glyphs(z, 51, 60, 61).set(false);
        CHECK.due("of another class", z.place(1, 5), NONE);
        CHECK.due("of the class", z.place(2, 5), 0);
    }

    private static void ligatures() {
        Part three = Part.of(3).to(Fonts.anchor(10, 0), Fonts.anchor(20, 0), null);
        Part subtable = Fonts.marksOn(Fonts.covers(60), Fonts.covers(80), 1,
                Fonts.marks(0, Fonts.anchor(0, 0)), Part.of(1).to(three));
        Part full = Part.of(2).to(Fonts.anchor(30, 0), Fonts.anchor(40, 0));
        Part other = Fonts.marksOn(Fonts.covers(60), Fonts.covers(81), 1,
                Fonts.marks(0, Fonts.anchor(0, 0)), Part.of(1).to(full));
        GlyphPositions x = Fonts.loaded(Fonts.lookup(5, 4, subtable, other));
        x.kind(60, 60, 3, 1);
        x.kind(80, 80, 2, 0);
        int[][] rows = {{80, 1, 10}, {80, 2, 20}, {80, 3, NONE}, {80, 0, NONE}, {80, 16, NONE},
            {81, 0, 40}, {81, 1, 30}, {81, 2, 40}, {81, 3, 40}, {82, 1, NONE}};
        for (int[] row : rows) {
            x.clear();
            x.add(row[0], 0, 0);
            x.add(60, 7, row[1]);
            x.set(false);
            String run = "ligature " + row[0] + ", part " + row[1];
            CHECK.due(run, x.place(1, 5), row[2] == NONE ? NONE : 0);
            CHECK.due(run, x.place(1, 2), row[2] == NONE ? 0 : row[2]);
        }
    }

    private static Part onMarks() {
        return Fonts.marksOn(Fonts.covers(61), Fonts.covers(60, 62), 1,
                Fonts.marks(0, Fonts.anchor(1, 2)),
                Fonts.bases(2, Fonts.anchor(11, 22), null));
    }

    private static void marksOnMarks() {
        GlyphPositions x = Fonts.loaded(Fonts.lookup(6, 0x100, onMarks()));
        x.kind(60, 62, 3, 1);
        x.kind(63, 63, 3, 2);
        Fonts.glyphs(x, 60, 61, 60, 63, 61, 62, 61, 60, 5, 61).set(false);
        due("on a mark", x, 1, 100, 0, 10 - 100, 20, 10, 0);
        due("one of another class is passed over", x, 4, 100, 0, 10 - 200, 20, 210, 2);
        CHECK.due("no anchor", x.place(6, 5), NONE);
        CHECK.due("no mark before it", x.place(9, 5), NONE);
        x.forget();
        x.set(false);
        CHECK.due("no mark by KIND", x.place(1, 5), NONE);
        GlyphPositions y = Fonts.loaded(Fonts.lookup(6, 2, onMarks()));
        y.kind(60, 61, 3, 1);
        y.kind(5, 5, 1, 0);
        Fonts.glyphs(y, 60, 5, 61).set(false);
        CHECK.due("a base is passed over", y.place(2, 5), 0);
    }

    private static void hangsByOne() {
        Part move = Fonts.single(Fonts.covers(60), 3, 1000, 2000);
        Part cursive = Fonts.cursive(Fonts.covers(50, 60),
                null, Fonts.anchor(40, 7), Fonts.anchor(2, 3), null);
        GlyphPositions x = Fonts.loaded(Fonts.lookup(1, 0, move), Fonts.lookup(3, 0, cursive),
                Fonts.lookup(4, 0, onBases()), Fonts.lookup(1, 0, move));
        x.kind(60, 60, 3, 1);
        Fonts.glyphs(x, 50, 60).set(false);
        // Joined: width 100 - 2 - 1000; then moved by nothing, and by 1000, 2000 again.
        due("mark at last", x, 1, -902, 0, 1000 + 290 - 40, 2000 + 699, 1290, 0);
        GlyphPositions y = Fonts.loaded(Fonts.lookup(1, 0, move), Fonts.lookup(4, 0, onBases()),
                Fonts.lookup(3, 0, cursive));
        y.kind(60, 60, 3, 1);
        Fonts.glyphs(y, 50, 60).set(false);
        due("joined at last", y, 1, 98, 0, -2, 4, 38, 0);
    }

    private static void hangsOnWhatHangs() {
        GlyphPositions x = Fonts.loaded(Fonts.lookup(4, 0, onBases()),
                Fonts.lookup(6, 0, onMarks()));
        x.kind(60, 62, 3, 1);
        x.add(50, 600, 0);
        x.add(60, 10, 0);
        x.add(61, 20, 0);
        x.set(false);
        due("on a base", x, 1, 10, 0, 290 - 600, 699, 290, 0);
        due("on that mark", x, 2, 20, 0, 10 - 310 - 10, 719, 300, 1);
        x.set(true);
        due("on a base, back", x, 1, 10, 0, 290 + 10, 699, 900, 0);
        due("on that mark, back", x, 2, 20, 0, 10 + 300 + 20, 719, 610 + 330, 1);
    }

    /** The order of lookups in a feature, and of features, does not matter. */
    private static void byRisingNumbers() {
        Part move = Fonts.lookup(1, 0, Fonts.single(Fonts.covers(1, 2), 1, 9));
        Part join = Fonts.lookup(3, 0, joining());
        Part features = Fonts.tagged(new Part(), 1, Fonts.feature(1), 2, Fonts.feature(2, 0, 2));
        Part scripts = Fonts.tagged(new Part(), Fonts.DFLT,
                Fonts.script(Fonts.language(0, 1, 0, 1)));
        byte[] font = Fonts.head(scripts, features, Fonts.lookups(move, join, move)).bytes();
        GlyphPositions x = Fonts.fed(font);
        CHECK.due("load", x.load(), 3);
        x.feature(2, true);
        Fonts.glyphs(x, 1, 2).set(false);
        due("moved, joined, moved", x, 0, 89, 0, 18);
        due("moved, joined, moved", x, 1, 84, 0, 2);
        x.feature(2, false);
        x.feature(1, false);
        x.set(false);
        due("the one required", x, 0, 80, 0, 0);
    }

    private static void wraps() {
        Part wide = Fonts.single(Fonts.covers(1), 4, 32767);
        Part[] all = new Part[64];
        Arrays.fill(all, Fonts.lookup(1, 0, wide));
        GlyphPositions x = Fonts.loaded(all);
        for (int i = 0; i < 800; i++) {
            x.add(1, 65535, 0);
        }
        CHECK.due("set", x.set(false), 800);
        int width = 65535 + 64 * 32767;
        due("widest", x, 799, width, 0, 0, 0, 799 * width, NONE);
    }
}
