/** The boundary cases of SETTING where glyphs hang on others: TYPES 3 to 6, and the end. */
public final class EdgeHangTest {
    private static final int NONE = GlyphPositions.NONE;
    private static final int BASE = 50;
    private static final int MARK = 60;
    private static final int OTHER_MARK = 61;

    public static void main(String[] args) {
        Sentences all = new Sentences("EdgeHangTest");
        all.test("TYPE 9 stands for another one:", EdgeHangTest::standsForAnother);
        all.test("the first subtable that takes it does.", EdgeHangTest::firstThatTakes);
        all.test("TYPE 3: there is a NEXT, the glyph has an EXIT, the NEXT an ENTRY "
                + "(both covered):", EdgeHangTest::exitAndEntry);
        all.test("its width becomes the EXIT's x and what it is moved right; of the NEXT, ENTRY's "
                + "x and what it is moved right are taken from its width and from what it is moved",
                EdgeHangTest::joined);
        all.test("(BACK: the NEXT's width becomes the ENTRY's x and what it is moved right; of the "
                + "glyph, EXIT's x and what it is moved right are taken from both).",
                EdgeHangTest::joinedBack);
        all.test("The NEXT hangs on it: up by EXIT's y less ENTRY's y.", EdgeHangTest::hangsUp);
        all.test("TYPE 4: it is a covered mark;", EdgeHangTest::coveredMark);
        all.test("the one before it that is no mark by KIND (FLAG does not matter there) is "
                + "covered as a base,", EdgeHangTest::theOneBefore);
        all.test("and has an ANCHOR for its class:", EdgeHangTest::anchorForItsClass);
        all.test("it hangs on that, by that ANCHOR less its own.", EdgeHangTest::anchorLessItsOwn);
        all.test("TYPE 5: the same with a ligature: of part k, k being what is told with the mark,",
                EdgeHangTest::partToldWithTheMark);
        all.test("or the last part if that is 0 or there are not so many.",
                EdgeHangTest::lastPart);
        all.test("TYPE 6: the one before it that is not passed over is a mark by KIND, covered as "
                + "a base, with an ANCHOR for its class.", EdgeHangTest::markOnMark);
        all.test("What hangs on something by TYPES 4 to 6 has no more what it was moved;",
                EdgeHangTest::noMoreMoved);
        all.test("who hangs by one hangs by no other any more.", EdgeHangTest::hangsByNoOther);
        all.test("At the end, from the first glyph on: what hangs by TYPE 3 is moved up by that "
                + "and by what the one it hangs on is;", EdgeHangTest::chainOfJoined);
        all.test("what hangs by others is moved by that, and by what the one it hangs on is, less "
                + "the widths (for up: what they are higher) of that and of all between",
                EdgeHangTest::lessTheWidths);
        all.test("(BACK: and by the widths, and what they are higher, of all between and of "
                + "itself).", EdgeHangTest::andByTheWidths);
        all.end();
    }

    /** Of two subtables each; the second one takes what the first one does not. */
    private static void standsForAnother(Check check) {
        Part a = Fonts.anchor(30, 40);
        Part[] none = {Fonts.widening(1, 9), Fonts.pairs(Fonts.covers(9), 0, 0, Tables.none()),
            Fonts.cursive(Fonts.covers(9), a, a), marksOn(9, 9, a), onLigature(9, 9, a),
            marksOn(9, 9, a)};
        Part[] some = {Fonts.widening(5, BASE), Fonts.pairs(Fonts.covers(BASE), 4, 0,
                Part.of(1, MARK, 5)),
            Fonts.cursive(Fonts.covers(BASE, MARK), null, a, a, null), marksOn(MARK, BASE, a),
            onLigature(MARK, BASE, a), marksOn(MARK, BASE, a)};
        int[][] due = {{105, 0, 0, 0, 105, NONE}, {105, 0, 0, 0, 105, NONE},
            {30, 0, -30, 0, 0, 0}, {100, 0, 30 - 100, 40, 30, 0}, {100, 0, 30 - 100, 40, 30, 0},
            {100, 0, 30 - 100, 40, 30, 0}};
        for (int type = 1; type <= 6; type++) {
            for (Part lookup : new Part[] {
                Fonts.lookup(type, 0, none[type - 1], some[type - 1]),
                Fonts.far(type, 0, none[type - 1], some[type - 1])}) {
                GlyphPositions x = marks(Fonts.loaded(lookup));
                x.kind(BASE, BASE, type == 6 ? 3 : 1, 1);
                Fonts.glyphs(x, BASE, MARK).set(false);
                int[] d = due[type - 1];
                check.due("TYPE " + type + ": width", x.place(0, 0), d[0]);
                int width = type == 3 ? 70 : 100;
                check.placed("TYPE " + type, x, 1, width, d[1], d[2], d[3], d[4], d[5]);
            }
        }
    }

    /** The mark's own ANCHOR is at 0, 0. */
    private static Part marksOn(int mark, int base, Part anchor) {
        return Fonts.marksOn(Fonts.covers(mark), Fonts.covers(base), 1,
                Fonts.marks(0, Fonts.anchor(0, 0)), Fonts.bases(1, anchor));
    }

    private static Part onLigature(int mark, int base, Part anchor) {
        return Fonts.marksOn(Fonts.covers(mark), Fonts.covers(base), 1,
                Fonts.marks(0, Fonts.anchor(0, 0)), Part.of(1).to(Part.of(1).to(anchor)));
    }

    private static void firstThatTakes(Check check) {
        Part seven = Fonts.anchor(7, 7);
        Part nine = Fonts.anchor(9, 9);
        Part zero = Fonts.anchor(0, 0);
        Part[] first = {Fonts.cursive(Fonts.covers(BASE, MARK), null, seven, zero, null),
            marksOn(MARK, BASE, seven), onLigature(MARK, BASE, seven), marksOn(MARK, BASE, seven)};
        Part[] second = {Fonts.cursive(Fonts.covers(BASE, MARK), null, nine, zero, null),
            marksOn(MARK, BASE, nine), onLigature(MARK, BASE, nine), marksOn(MARK, BASE, nine)};
        Part[] noBase = {Fonts.cursive(Fonts.covers(MARK), zero, null),
            marksOn(MARK, 9, seven), onLigature(MARK, 9, seven), marksOn(MARK, 9, seven)};
        Part[] noMark = {Fonts.cursive(Fonts.covers(BASE), null, seven),
            marksOn(9, BASE, seven), onLigature(9, BASE, seven), marksOn(9, BASE, seven)};
        Part[] noAnchor = {Fonts.cursive(Fonts.covers(BASE, MARK), seven, null, zero, null),
            marksOn(MARK, BASE, null), onLigature(MARK, BASE, null), marksOn(MARK, BASE, null)};
        Part[] noEntry = {Fonts.cursive(Fonts.covers(BASE, MARK), seven, seven, null, zero),
            noAnchor[1], noAnchor[2], noAnchor[3]};
        for (int type = 3; type <= 6; type++) {
            dueUp(check, type, 7, first[type - 3], second[type - 3]);
            dueUp(check, type, 9, second[type - 3], first[type - 3]);
            for (Part[] no : new Part[][] {noBase, noMark, noAnchor, noEntry}) {
                dueUp(check, type, 9, no[type - 3], second[type - 3], first[type - 3]);
            }
        }
    }

    private static void dueUp(Check check, int type, int due, Part... subtables) {
        GlyphPositions x = marks(Fonts.loaded(Fonts.lookup(type, 0, subtables)));
        x.kind(BASE, BASE, type == 6 ? 3 : 1, 1);
        Fonts.glyphs(x, BASE, MARK).set(false);
        check.due("TYPE " + type + ": moved up", x.place(1, 3), due);
        check.due("TYPE " + type + ": hangs on", x.place(1, 5), 0);
    }

    private static Part joining(Part... anchors) {
        int[] glyphs = new int[anchors.length / 2];
        for (int k = 0; k < glyphs.length; k++) {
            glyphs[k] = k + 1;
        }
        return Fonts.cursive(Fonts.covers(glyphs), anchors);
    }

    private static Part move(int right, int up, int... glyphs) {
        return Fonts.lookup(1, 0, Fonts.single(Fonts.covers(glyphs), 3, right, up));
    }

    private static void hangs(Check check, String run, GlyphPositions x, int... due) {
        check.due(run + ": set", x.set(false), due.length);
        for (int i = 0; i < due.length; i++) {
            check.due(run + ": " + i + " hangs on", x.place(i, 5), due[i]);
        }
    }

    /** Glyph 1 has both, 2 an ENTRY, 3 an EXIT, 4 none, 5 is not covered. */
    private static void exitAndEntry(Check check) {
        Part a = Fonts.anchor(10, 20);
        Part subtable = joining(a, a, a, null, null, a, null, null);
        for (int first = 1; first <= 5; first++) {
            for (int second = 1; second <= 5; second++) {
                GlyphPositions x = Fonts.loaded(Fonts.lookup(3, 0, subtable));
                boolean joined = (first == 1 || first == 3) && second <= 2;
                Fonts.glyphs(x, first, second);
                hangs(check, first + ", " + second, x, NONE, joined ? 0 : NONE);
                check.placed(first + ", " + second, x, 0, joined ? 10 : 100, 0, 0, 0);
                check.placed(first + ", " + second, x, 1, joined ? 90 : 100, 0, joined ? -10 : 0);
            }
        }
        GlyphPositions x = Fonts.loaded(Fonts.lookup(3, 8, subtable));
        hangs(check, "no NEXT", Fonts.glyphs(x, 1), NONE);
        x.kind(9, 9, 3, 0);
        x.clear();
        hangs(check, "passed over", Fonts.glyphs(x, 9, 1, 9, 9, 2, 9), NONE, NONE, NONE, NONE, 1,
                NONE);
        x.kind(1, 1, 3, 0);
        hangs(check, "the first one, too", x, NONE, NONE, NONE, NONE, NONE, NONE);
        GlyphPositions y = Fonts.loaded(Fonts.lookup(3, 0, subtable));
        y.kind(9, 9, 3, 0);
        hangs(check, "not passed over", Fonts.glyphs(y, 1, 9, 2), NONE, NONE, NONE);
        // EXIT and ENTRY must be of one subtable.
        GlyphPositions z = Fonts.loaded(Fonts.lookup(3, 0,
                Fonts.cursive(Fonts.covers(3), null, a), Fonts.cursive(Fonts.covers(2), a, null)));
        hangs(check, "two subtables", Fonts.glyphs(z, 3, 2), NONE, NONE);
    }

    /** Glyph 1 is moved by 4, glyph 2 by 9; EXIT at 80, ENTRY at 7. */
    private static GlyphPositions movedAndJoined() {
        Part subtable = joining(Fonts.anchor(99, 0), Fonts.anchor(80, 0),
                Fonts.anchor(7, 0), Fonts.anchor(99, 0));
        return Fonts.loaded(move(4, 0, 1), move(9, 0, 2), Fonts.lookup(3, 0, subtable));
    }

    private static void joined(Check check) {
        GlyphPositions x = Fonts.glyphs(movedAndJoined(), 1, 2);
        x.set(false);
        check.placed("glyph", x, 0, 84, 0, 4, 0, 4, NONE);
        check.placed("NEXT", x, 1, 100 - 16, 0, -7, 0, 84 - 7, 0);
        GlyphPositions y = Fonts.loaded(Fonts.lookup(3, 0,
                joining(Fonts.anchor(7, 0), Fonts.anchor(80, 0))));
        Fonts.glyphs(y, 1, 1, 1).set(false);
        check.placed("first of three", y, 0, 80, 0, 0, 0, 0, NONE);
        check.placed("second of three", y, 1, 80 - 7, 0, -7, 0, 73, 0);
        check.placed("third of three", y, 2, 93, 0, -7, 0, 80 + 73 - 7, 1);
        GlyphPositions z = Fonts.loaded(Fonts.lookup(3, 0,
                joining(Fonts.anchor(-32768, 0), Fonts.anchor(-1, 0))));
        z.add(1, 0, 0);
        z.add(1, 65535, 0);
        z.set(false);
        check.placed("EXIT below 0", z, 0, -1, 0, 0, 0, 0, NONE);
        check.placed("ENTRY below 0", z, 1, 65535 + 32768, 0, 32768, 0, 32767, 0);
    }

    private static void joinedBack(Check check) {
        GlyphPositions x = Fonts.glyphs(movedAndJoined(), 1, 2);
        x.set(true);
        check.placed("glyph", x, 0, 100 - 84, 0, -80, 0, -80, NONE);
        check.placed("NEXT", x, 1, 16, 0, 9, 0, 16 + 9, 0);
        GlyphPositions y = Fonts.loaded(Fonts.lookup(3, 0,
                joining(Fonts.anchor(7, 0), Fonts.anchor(80, 0))));
        Fonts.glyphs(y, 1, 1, 1).set(true);
        check.placed("first of three", y, 0, 20, 0, -80, 0, -80, NONE);
        check.placed("second of three", y, 1, 7 - 80, 0, -80, 0, 20 - 80, 0);
        check.placed("third of three", y, 2, 7, 0, 0, 0, 20 - 73, 1);
        GlyphPositions z = Fonts.loaded(Fonts.lookup(3, 0,
                joining(Fonts.anchor(-32768, 0), Fonts.anchor(-1, 0))));
        z.add(1, 65535, 0);
        z.add(1, 0, 0);
        z.set(true);
        check.placed("EXIT below 0", z, 0, 65536, 0, 1, 0, 1, NONE);
        check.placed("ENTRY below 0", z, 1, -32768, 0, 0, 0, 65536, 0);
    }

    private static void hangsUp(Check check) {
        int[][] ys = {{50, 20}, {20, 50}, {0, 0}, {-32768, 32767}, {32767, -32768}};
        for (int[] y : ys) {
            Part subtable = joining(Fonts.anchor(0, y[1]), Fonts.anchor(0, y[0]));
            GlyphPositions x = Fonts.glyphs(Fonts.loaded(Fonts.lookup(3, 0, subtable)), 1, 1);
            for (int back = 0; back <= 1; back++) {
                x.set(back == 1);
                check.due("glyph is not moved up", x.place(0, 3), 0);
                check.due("NEXT is moved up", x.place(1, 3), y[0] - y[1]);
                check.due("glyph hangs on nothing", x.place(0, 5), NONE);
                check.due("NEXT hangs on it", x.place(1, 5), 0);
            }
        }
    }

    /** One ANCHOR for each of two classes, or none: as 0 here. */
    private static Part onBase(int classOfMark, int zero, int one) {
        Part a = Fonts.anchor(300, 700);
        return Fonts.marksOn(Fonts.covers(MARK), Fonts.covers(BASE), 2,
                Fonts.marks(classOfMark, Fonts.anchor(10, 1)),
                Fonts.bases(1, zero == 0 ? null : a, one == 0 ? null : a));
    }

    private static GlyphPositions marks(GlyphPositions x) {
        x.kind(MARK, 69, 3, 1);
        return x;
    }

    private static void coveredMark(Check check) {
        GlyphPositions x = marks(Fonts.loaded(Fonts.lookup(4, 0, onBase(0, 1, 0))));
        hangs(check, "covered", Fonts.glyphs(x, BASE, MARK), NONE, 0);
        x.clear();
        hangs(check, "not covered", Fonts.glyphs(x, BASE, OTHER_MARK, 59), NONE, NONE, NONE);
        GlyphPositions y = marks(Fonts.loaded(Fonts.lookup(4, 8, onBase(0, 1, 0))));
        hangs(check, "passed over", Fonts.glyphs(y, BASE, MARK), NONE, NONE);
        GlyphPositions z = marks(Fonts.loaded(Fonts.lookup(4, 0x0200, onBase(0, 1, 0))));
        hangs(check, "of another class of marks", Fonts.glyphs(z, BASE, MARK), NONE, NONE);
    }

    private static void theOneBefore(Check check) {
        for (int flag : new int[] {0, 2, 4, 6, 0x0100, 0x0106}) {
            for (int kind = 0; kind <= 2; kind++) {
                GlyphPositions x = marks(Fonts.loaded(Fonts.lookup(4, flag, onBase(0, 1, 0))));
                x.kind(BASE, BASE, kind, 0);
                x.kind(70, 70, 3, 9);
                String run = "FLAG " + flag + ", kind " + kind;
                hangs(check, run, Fonts.glyphs(x, BASE, MARK), NONE, 0);
                x.clear();
                hangs(check, run + ", marks between",
                        Fonts.glyphs(x, BASE, OTHER_MARK, 70, MARK, MARK), NONE, NONE, NONE, 0, 0);
                x.clear();
                hangs(check, run + ", another one between",
                        Fonts.glyphs(x, BASE, 7, MARK), NONE, NONE, NONE);
                x.clear();
                hangs(check, run + ", none before",
                        Fonts.glyphs(x, MARK, BASE, MARK), NONE, NONE, 1);
            }
        }
        GlyphPositions y = marks(Fonts.loaded(Fonts.lookup(4, 0, onBase(0, 1, 0))));
        y.kind(BASE, BASE, 3, 0);
        hangs(check, "the base is a mark", Fonts.glyphs(y, 7, BASE, MARK), NONE, NONE, NONE);
        y.clear();
        hangs(check, "no one but marks", Fonts.glyphs(y, BASE, MARK), NONE, NONE);
        y.kind(7, 7, 2, 0);
        y.kind(BASE, BASE, 1, 0);
        y.clear();
        hangs(check, "the nearest one counts", Fonts.glyphs(y, BASE, 7, BASE, MARK, 7, MARK),
                NONE, NONE, NONE, 2, NONE, NONE);
    }

    private static void anchorForItsClass(Check check) {
        for (int classOfMark = 0; classOfMark <= 1; classOfMark++) {
            for (int there = 0; there < 4; there++) {
                int zero = there & 1;
                int one = there >> 1;
                boolean has = (classOfMark == 0 ? zero : one) != 0;
                GlyphPositions x = marks(Fonts.loaded(
                        Fonts.lookup(4, 0, onBase(classOfMark, zero, one))));
                hangs(check, "class " + classOfMark + " of " + zero + ", " + one,
                        Fonts.glyphs(x, BASE, MARK), NONE, has ? 0 : NONE);
            }
        }
        // Without one the next subtable is asked.
        GlyphPositions y = marks(Fonts.loaded(
                Fonts.lookup(4, 0, onBase(1, 1, 0), onBase(1, 0, 1))));
        hangs(check, "the second subtable", Fonts.glyphs(y, BASE, MARK), NONE, 0);
        Part[] anchors = new Part[32];
        anchors[31] = Fonts.anchor(5, 6);
        Part last = Fonts.marksOn(Fonts.covers(MARK, OTHER_MARK), Fonts.covers(BASE, 51), 16,
                Fonts.marks(14, Fonts.anchor(0, 0), 15, Fonts.anchor(0, 0)),
                Fonts.bases(2, anchors));
        GlyphPositions z = marks(Fonts.loaded(Fonts.lookup(4, 0, last)));
        Fonts.glyphs(z, BASE, MARK, OTHER_MARK, 51, MARK, OTHER_MARK);
        hangs(check, "of 16 classes", z, NONE, NONE, NONE, NONE, NONE, 3);
    }

    private static void anchorLessItsOwn(Check check) {
        int[][] anchors = {{300, 700, 10, 1}, {0, 0, 0, 0}, {-1, -2, -3, -4},
            {32767, -32768, -32768, 32767}};
        for (int[] a : anchors) {
            Part subtable = Fonts.marksOn(Fonts.covers(MARK), Fonts.covers(BASE), 1,
                    Fonts.marks(0, Fonts.anchor(a[2], a[3])),
                    Fonts.bases(1, Fonts.anchor(a[0], a[1])));
            GlyphPositions x = marks(Fonts.loaded(Fonts.lookup(4, 0, subtable)));
            x.add(BASE, 0, 0);
            x.add(MARK, 0, 0);
            for (int back = 0; back <= 1; back++) {
                x.set(back == 1);
                check.placed("base", x, 0, 0, 0, 0, 0, 0, NONE);
                check.placed("mark", x, 1, 0, 0, a[0] - a[2], a[1] - a[3], a[0] - a[2], 0);
            }
        }
    }

    /** Ligatures 80 + p of p parts: part k has its ANCHOR at k, but for the one left out. */
    private static GlyphPositions ligature(int parts, int leftOut) {
        Part[] anchors = new Part[parts];
        for (int k = 1; k <= parts; k++) {
            anchors[k - 1] = k == leftOut ? null : Fonts.anchor(k, 0);
        }
        Part subtable = Fonts.marksOn(Fonts.covers(MARK), Fonts.covers(BASE, 80), 1,
                Fonts.marks(0, Fonts.anchor(0, 0)),
                Part.of(2).to(Part.of(1, 0), Part.of(parts).to(anchors)));
        return marks(Fonts.loaded(Fonts.lookup(5, 6, subtable)));
    }

    private static void duePart(Check check, GlyphPositions x, String run, int part, int due) {
        x.clear();
        x.add(80, 0, 0);
        x.add(OTHER_MARK, 0, 1);
        x.add(MARK, 0, part);
        x.set(false);
        check.due(run + ", part " + part + " hangs on", x.place(2, 5), due == 0 ? NONE : 0);
        check.due(run + ", part " + part + " moved", x.place(2, 2), due);
    }

    private static void partToldWithTheMark(Check check) {
        for (int parts : new int[] {1, 2, 3, 15, 16}) {
            GlyphPositions x = ligature(parts, 0);
            x.kind(80, 80, 2, 0);
            for (int part = 1; part <= parts; part++) {
                duePart(check, x, parts + " parts", part, part);
            }
            GlyphPositions y = ligature(parts, 1);
            duePart(check, y, parts + " parts, no first ANCHOR", 1, 0);
        }
        GlyphPositions z = ligature(3, 2);
        duePart(check, z, "no ANCHOR in the middle", 1, 1);
        duePart(check, z, "no ANCHOR in the middle", 2, 0);
        duePart(check, z, "no ANCHOR in the middle", 3, 3);
        // Of two classes: the ANCHORS of a part stand together.
        Part four = Part.of(2).to(Fonts.anchor(1, 0), Fonts.anchor(2, 0), Fonts.anchor(3, 0),
                Fonts.anchor(4, 0));
        for (int classOfMark = 0; classOfMark <= 1; classOfMark++) {
            GlyphPositions w = marks(Fonts.loaded(Fonts.lookup(5, 0,
                    Fonts.marksOn(Fonts.covers(MARK), Fonts.covers(80), 2,
                            Fonts.marks(classOfMark, Fonts.anchor(0, 0)), Part.of(1).to(four)))));
            duePart(check, w, "class " + classOfMark, 1, 1 + classOfMark);
            duePart(check, w, "class " + classOfMark, 2, 3 + classOfMark);
        }
        z.clear();
        hangs(check, "not the ligature", Fonts.glyphs(z, 80, 7, MARK), NONE, NONE, NONE);
        z.clear();
        hangs(check, "no ligature before", Fonts.glyphs(z, MARK), NONE);
    }

    private static void lastPart(Check check) {
        for (int parts : new int[] {1, 2, 3, 15, 16}) {
            GlyphPositions x = ligature(parts, 0);
            duePart(check, x, parts + " parts", 0, parts);
            for (int part = parts + 1; part <= 16; part++) {
                duePart(check, x, parts + " parts", part, parts);
            }
            GlyphPositions y = ligature(parts, parts);
            duePart(check, y, parts + " parts, no last ANCHOR", 0, 0);
            if (parts < 16) {
                duePart(check, y, parts + " parts, no last ANCHOR", parts + 1, 0);
            }
        }
    }

    /** OTHER_MARK hangs on MARK, but for class 1, which has no ANCHOR; 62 is not covered. */
    private static Part onMark() {
        return Fonts.marksOn(Fonts.covers(OTHER_MARK, 63), Fonts.covers(MARK, 64), 2,
                Fonts.marks(0, Fonts.anchor(1, 2), 1, Fonts.anchor(1, 2)),
                Fonts.bases(2, Fonts.anchor(11, 22), null, null, Fonts.anchor(11, 22)));
    }

    private static void markOnMark(Check check) {
        GlyphPositions x = marks(Fonts.loaded(Fonts.lookup(6, 0, onMark())));
        hangs(check, "on a mark", Fonts.glyphs(x, MARK, OTHER_MARK), NONE, 0);
        check.placed("on a mark", x, 1, 100, 0, 10 - 100, 20, 10, 0);
        x.clear();
        hangs(check, "classes", Fonts.glyphs(x, MARK, 63, 64, 63, 64, OTHER_MARK), NONE, NONE,
                NONE, 2, NONE, NONE);
        x.clear();
        hangs(check, "not covered, none before", Fonts.glyphs(x, OTHER_MARK, 62, OTHER_MARK),
                NONE, NONE, NONE);
        x.clear();
        hangs(check, "a base between", Fonts.glyphs(x, MARK, BASE, OTHER_MARK), NONE, NONE, NONE);
        x.clear();
        hangs(check, "a mark between", Fonts.glyphs(x, MARK, 62, OTHER_MARK), NONE, NONE, NONE);
        x.kind(MARK, MARK, 1, 1);
        x.clear();
        hangs(check, "no mark by KIND", Fonts.glyphs(x, MARK, OTHER_MARK), NONE, NONE);
        markOnMarkPassingOver(check);
    }

    private static void markOnMarkPassingOver(Check check) {
        GlyphPositions x = marks(Fonts.loaded(Fonts.lookup(6, 0x0102, onMark())));
        x.kind(BASE, BASE, 1, 0);
        x.kind(62, 62, 3, 2);
        hangs(check, "passed over between",
                Fonts.glyphs(x, MARK, BASE, 62, BASE, OTHER_MARK), NONE, NONE, NONE, NONE, 0);
        x.kind(BASE, BASE, 2, 0);
        hangs(check, "a ligature is not", x, NONE, NONE, NONE, NONE, NONE);
        x.kind(BASE, BASE, 0, 0);
        hangs(check, "no kind is not", x, NONE, NONE, NONE, NONE, NONE);
        x.kind(MARK, MARK, 3, 2);
        x.clear();
        hangs(check, "of another class of marks", Fonts.glyphs(x, MARK, OTHER_MARK), NONE, NONE);
        x.kind(MARK, MARK, 3, 1);
        x.kind(OTHER_MARK, OTHER_MARK, 3, 2);
        hangs(check, "itself of another class", x, NONE, NONE);
    }

    /** TYPES 4, 5 and 6: the mark 60 on the glyph 50, by 290 and 699. */
    private static Part hanging(int type) {
        Part a = Fonts.anchor(300, 700);
        return Fonts.lookup(type, 0, Fonts.marksOn(Fonts.covers(MARK), Fonts.covers(BASE), 1,
                Fonts.marks(0, Fonts.anchor(10, 1)),
                type == 5 ? Part.of(1).to(Part.of(1).to(a)) : Fonts.bases(1, a)));
    }

    private static GlyphPositions hangingBy(int type, Part... lookups) {
        GlyphPositions x = marks(Fonts.loaded(lookups));
        x.kind(BASE, BASE, type == 6 ? 3 : 1, 1);
        x.add(BASE, 0, 0);
        x.add(MARK, 500, 0);
        return x;
    }

    private static void noMoreMoved(Check check) {
        Part all = Fonts.lookup(1, 0, Fonts.single(Fonts.covers(MARK), 15, 1000, 2000, 3, 4));
        for (int type = 4; type <= 6; type++) {
            GlyphPositions x = hangingBy(type, all, hanging(type));
            x.set(false);
            check.placed("moved before", x, 1, 503, 4, 290, 699, 290, 0);
            GlyphPositions y = hangingBy(type, hanging(type), all);
            y.set(false);
            check.placed("moved behind", y, 1, 503, 4, 1290, 2699, 1290, 0);
            GlyphPositions z = hangingBy(type, all, hanging(type), all, hanging(type));
            z.set(false);
            check.placed("hangs twice", z, 1, 506, 8, 290, 699, 290, 0);
            GlyphPositions w = hangingBy(type, all, Fonts.lookup(type, 8));
            w.set(false);
            check.placed("hangs on nothing", w, 1, 503, 4, 1000, 2000, 1000, NONE);
        }
    }

    /** EXIT of 50 at 40, 7; ENTRY of 60 at 2, 3. */
    private static Part joiningMark() {
        return Fonts.lookup(3, 0, Fonts.cursive(Fonts.covers(BASE, MARK),
                null, Fonts.anchor(40, 7), Fonts.anchor(2, 3), null));
    }

    private static void hangsByNoOther(Check check) {
        GlyphPositions x = hangingBy(4, joiningMark(), hanging(4));
        x.set(false);
        check.placed("joined, then on a base", x, 0, 40, 0, 0, 0, 0, NONE);
        check.placed("joined, then on a base", x, 1, 498, 0, 290 - 40, 699, 290, 0);
        GlyphPositions y = hangingBy(4, move(5, 6, MARK), hanging(4), joiningMark());
        y.set(false);
        check.placed("on a base, then joined", y, 1, 498, 0, -2, 4, 38, 0);
        GlyphPositions z = hangingBy(4, joiningMark(), joiningMark());
        z.set(false);
        // What its ENTRY took the first time is what it is moved: the second takes nothing.
        check.placed("joined twice", z, 1, 500 - 2, 0, -2, 4, 38, 0);
        hangsOnAnotherOne(check);
    }

    /** OTHER_MARK hangs on the base 51 by TYPE 4, and on MARK by TYPE 6. */
    private static void hangsOnAnotherOne(Check check) {
        Part four = Fonts.lookup(4, 0, Fonts.marksOn(Fonts.covers(OTHER_MARK), Fonts.covers(51), 1,
                Fonts.marks(0, Fonts.anchor(0, 0)), Fonts.bases(1, Fonts.anchor(70, 80))));
        Part six = Fonts.lookup(6, 0, onMark());
        GlyphPositions x = marks(Fonts.loaded(four, six));
        Fonts.glyphs(x, 51, MARK, OTHER_MARK).set(false);
        check.placed("on a base, then on a mark", x, 2, 100, 0, 10 - 100, 20, 110, 1);
        GlyphPositions y = marks(Fonts.loaded(six, four));
        Fonts.glyphs(y, 51, MARK, OTHER_MARK).set(false);
        check.placed("on a mark, then on a base", y, 2, 100, 0, 70 - 200, 80, 70, 0);
    }

    private static void chainOfJoined(Check check) {
        Part join = Fonts.lookup(3, 0, joining(Fonts.anchor(0, 20), Fonts.anchor(100, 50)));
        GlyphPositions x = Fonts.loaded(move(0, 5, 1), join, move(0, 1000, 1));
        for (int back = 0; back <= 1; back++) {
            x.clear();
            Fonts.glyphs(x, 1, 1, 1, 7, 1).set(back == 1);
            int[] due = {1005, 1005 + 30 + 1005, 1005 + 30 + 2040, 0, 1005};
            for (int i = 0; i < due.length; i++) {
                check.due("moved up " + i, x.place(i, 3), due[i]);
            }
        }
        // A joined one is moved right by nothing else, whatever the one it hangs on is.
        GlyphPositions y = Fonts.loaded(join, move(30, 0, 1));
        Fonts.glyphs(y, 1, 1, 1).set(false);
        for (int i = 0; i < 3; i++) {
            check.due("moved right " + i, y.place(i, 2), 30);
        }
        GlyphPositions z = marks(Fonts.loaded(join, Fonts.lookup(4, 0,
                Fonts.marksOn(Fonts.covers(MARK), Fonts.covers(1), 1,
                        Fonts.marks(0, Fonts.anchor(0, 0)), Fonts.bases(1, Fonts.anchor(3, 4))))));
        Fonts.glyphs(z, 1, 1, MARK).set(false);
        check.placed("a mark on a joined one", z, 2, 100, 0, 3 - 100, 34, 103, 1);
    }

    /** A base, a mark that is not covered, two marks, with widths and heights told at the end. */
    private static GlyphPositions between() {
        Part sizes = Fonts.lookup(1, 0, Fonts.singles(Fonts.covers(BASE, MARK, 65), 15, 3,
                1, 2, 10, 3, 4, 8, 20, 5, 16, 32, 40, 7));
        GlyphPositions x = marks(Fonts.loaded(hanging(4), sizes));
        return Fonts.glyphs(x, BASE, 65, MARK, MARK);
    }

    private static void lessTheWidths(Check check) {
        GlyphPositions x = between();
        x.set(false);
        check.placed("base", x, 0, 110, 3, 1, 2, 1, NONE);
        check.placed("between", x, 1, 140, 7, 16, 32, 126, NONE);
        check.placed("mark", x, 2, 120, 5, 4 + 290 + 1 - 110 - 140, 8 + 699 + 2 - 3 - 7,
                250 + 45, 0);
        check.placed("second mark", x, 3, 120, 5, 4 + 290 + 1 - 110 - 140 - 120,
                8 + 699 + 2 - 3 - 7 - 5, 370 - 75, 0);
        GlyphPositions y = hangingOnMarks();
        y.set(false);
        check.placed("on a base", y, 1, 20, 0, 290 - 600, 699, 290, 0);
        check.placed("on that mark", y, 2, 30, 0, 290 - 600 + 10 - 20, 719, 300, 1);
    }

    private static GlyphPositions hangingOnMarks() {
        GlyphPositions x = marks(Fonts.loaded(hanging(4), Fonts.lookup(6, 0, onMark())));
        x.add(BASE, 600, 0);
        x.add(MARK, 20, 0);
        x.add(OTHER_MARK, 30, 0);
        return x;
    }

    private static void andByTheWidths(Check check) {
        GlyphPositions x = between();
        x.set(true);
        check.placed("base", x, 0, 110, 3, 1, 2, 1, NONE);
        check.placed("between", x, 1, 140, 7, 16, 32, 126, NONE);
        check.placed("mark", x, 2, 120, 5, 4 + 290 + 1 + 140 + 120, 8 + 699 + 2 + 7 + 5,
                250 + 555, 0);
        check.placed("second mark", x, 3, 120, 5, 4 + 290 + 1 + 140 + 120 + 120,
                8 + 699 + 2 + 7 + 5 + 5, 370 + 675, 0);
        GlyphPositions y = hangingOnMarks();
        y.set(true);
        check.placed("on a base", y, 1, 20, 0, 290 + 20, 699, 910, 0);
        check.placed("on that mark", y, 2, 30, 0, 310 + 10 + 30, 719, 620 + 350, 1);
    }
}
