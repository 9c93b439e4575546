/**
 * The positions that a font gives to glyphs: a table of scripts, languages, features and lookups
 * is read and checked throughout, and a run of glyphs is set by its lookups.
 *
 * <p>A table that was found to be as said is kept as the bytes that it was; setting reads those
 * bytes again and builds nothing, so that no call but the constructor makes an object.
 */
public final class GlyphPositions {
    public static final int NONE = -1;
    public static final int HEAD = -1;
    public static final int SCRIPTS = -2;
    public static final int FEATURES = -3;
    public static final int LOOKUPS = -4;

    private static final int MOST_BYTES = 8192;
    private static final int MOST_RANGES = 256;
    private static final int MOST_TAGS = 20;
    private static final int MOST_GLYPHS = 800;
    private static final int MOST_LISTED = 64;
    private static final int MOST_SUBTABLES = 16;
    private static final int MOST_BY_INDEX = 256;
    private static final int MOST_MARK_CLASSES = 16;
    private static final int MOST_PARTS = 16;
    private static final int MOST_LOOKED_AT = 20000;

    private static final int HIGHEST_U16 = 65535;
    private static final int NOTHING_REQUIRED = 65535;
    private static final int DFLT = 0x44464c54;

    private static final int SINGLE = 1;
    private static final int PAIR = 2;
    private static final int CURSIVE = 3;
    private static final int MARK_TO_LIGATURE = 5;
    private static final int MARK_TO_MARK = 6;
    private static final int EXTENSION = 9;

    private static final int BASE_KIND = 1;
    private static final int LIGATURE_KIND = 2;
    private static final int MARK_KIND = 3;

    /** Where the places of the three parts stand in HEAD. */
    private static final int AT_SCRIPTS = 4;
    private static final int AT_FEATURES = 6;
    private static final int AT_LOOKUPS = 8;

    private final Table fed;
    private final Table font;
    private final Loader loader;
    private final Kinds kinds;
    private final Tags tags;
    private final Told told;
    private final Choice choice;
    private final Run run;
    private final Setter setter;
    private boolean loaded;
    private int script;
    private int language;

    public GlyphPositions() {
        fed = new Table();
        font = new Table();
        loader = new Loader(fed);
        kinds = new Kinds();
        tags = new Tags();
        told = new Told();
        choice = new Choice(font, tags);
        run = new Run();
        setter = new Setter(font, told, kinds, run);
    }

    public int feed(int word) {
        return fed.append(word) ? fed.size : NONE;
    }

    public int put(int i, int b) throws IndexOutOfBoundsException, IllegalArgumentException {
        if (!fed.lies(i, 1)) {
            throw new IndexOutOfBoundsException("the table has no such byte");
        }
        if (b < 0 || b > 255) {
            throw new IllegalArgumentException("a byte is 0 .. 255");
        }
        return fed.replace(i, b);
    }

    public int cut(int many) throws IllegalArgumentException {
        if (many < 0) {
            throw new IllegalArgumentException("less than no bytes cannot be left");
        }
        return fed.shorten(many);
    }

    public int load() {
        if (!loader.headAsSaid()) {
            return HEAD;
        }
        if (!loader.scriptsAsSaid()) {
            return SCRIPTS;
        }
        if (!loader.featuresAsSaid()) {
            return FEATURES;
        }
        if (!loader.lookupsAsSaid()) {
            return LOOKUPS;
        }
        font.copyFrom(fed);
        loaded = true;
        return font.u16(font.u16(AT_LOOKUPS));
    }

    public void kind(int first, int last, int kind, int marks)
            throws IllegalArgumentException, IllegalStateException {
        if (!isU16(first) || !isU16(last) || first > last) {
            throw new IllegalArgumentException("no range of glyphs");
        }
        if (kind < 0 || kind > MARK_KIND || marks < 0 || marks > 255) {
            throw new IllegalArgumentException("no kind, or no class of marks");
        }
        if (!kinds.tell(first, last, kind, marks)) {
            throw new IllegalStateException("there are 256 ranges already");
        }
    }

    public int forget() {
        return kinds.drop();
    }

    public void choose(int script, int language) {
        this.script = script;
        this.language = language;
    }

    public void feature(int tag, boolean on) throws IllegalStateException {
        if (!tags.tell(tag, on)) {
            throw new IllegalStateException("20 tags were told already");
        }
    }

    public int add(int glyph, int width, int part)
            throws IllegalArgumentException, IllegalStateException {
        if (!isU16(glyph) || !isU16(width) || part < 0 || part > MOST_PARTS) {
            throw new IllegalArgumentException("no glyph, no width, or no part");
        }
        if (!told.append(glyph, width, part)) {
            throw new IllegalStateException("there are 800 glyphs already");
        }
        return told.count;
    }

    public int clear() {
        return told.drop();
    }

    public int set(boolean back) throws IllegalStateException {
        if (!loaded) {
            throw new IllegalStateException("no table is loaded");
        }
        run.start(told);
        setter.start(back);
        choice.find(script, language);
        for (int number = 0; number < MOST_LISTED; number++) {
            if (choice.wanted[number]) {
                setter.carryOut(number);
            }
        }
        run.finish(back);
        return run.count;
    }

    public int place(int i, int what) throws IndexOutOfBoundsException {
        if (i < 0 || i >= run.count) {
            throw new IndexOutOfBoundsException("the run set last has no such glyph");
        }
        switch (what) {
            case 0:
                return run.width[i];
            case 1:
                return run.higher[i];
            case 2:
                return run.right[i];
            case 3:
                return run.up[i];
            case 4:
                return run.widthsBefore(i) + run.right[i];
            case 5:
                return run.hangsOn[i];
            default:
                throw new IndexOutOfBoundsException("what is asked is 0 .. 5");
        }
    }

    private static boolean isU16(int number) {
        return number >= 0 && number <= HIGHEST_U16;
    }

    /** Two bytes for each number that a VALUE has; its bits tell how many those are. */
    private static int sizeOfValue(int bits) {
        return 2 * Integer.bitCount(bits);
    }

    /** Bytes, in which numbers stand with the highest byte first. */
    private static final class Table {
        private final byte[] bytes = new byte[MOST_BYTES];
        private int size;

        boolean append(int word) {
            if (size > MOST_BYTES - 4) {
                return false;
            }
            bytes[size] = (byte) (word >>> 24);
            bytes[size + 1] = (byte) (word >>> 16);
            bytes[size + 2] = (byte) (word >>> 8);
            bytes[size + 3] = (byte) word;
            size += 4;
            return true;
        }

        int replace(int at, int b) {
            if (at < 0 || at >= size) {
                return 0;
            }
            int was = bytes[at] & 255;
            bytes[at] = (byte) b;
            return was;
        }

        int shorten(int many) {
            int gone = many >= 0 && many < size ? size - many : 0;
            size -= gone;
            return gone;
        }

        void copyFrom(Table other) {
            System.arraycopy(other.bytes, 0, bytes, 0, other.size);
            size = other.size;
        }

        boolean lies(int at, int many) {
            return at >= 0 && many >= 0 && at <= size - many;
        }

        /** Outside of the table this is 0, as are all numbers: whom that matters asks lies first. */
        int u16(int at) {
            if (at < 0 || at > size - 2) {
                return 0;
            }
            return (bytes[at] & 255) << 8 | bytes[at + 1] & 255;
        }

        int s16(int at) {
            return (short) u16(at);
        }

        int u32(int at) {
            return u16(at) << 16 | u16(at + 2);
        }
    }

    /** LOADING: looks at the parts of a table, each of which is as said or is not. */
    private static final class Loader {
        private final Table table;
        private int lookedAt;

        Loader(Table table) {
            this.table = table;
        }

        boolean headAsSaid() {
            return table.lies(0, 10) && table.u16(0) == 1 && table.u16(2) == 0
                    && table.u16(AT_SCRIPTS) != 0 && table.u16(AT_FEATURES) != 0
                    && table.u16(AT_LOOKUPS) != 0;
        }

        boolean scriptsAsSaid() {
            int at = table.u16(AT_SCRIPTS);
            if (!tagsAsSaid(at, false)) {
                return false;
            }
            int many = table.u16(at);
            for (int k = 0; k < many; k++) {
                if (!scriptAsSaid(at + table.u16(at + 6 + 6 * k))) {
                    return false;
                }
            }
            return true;
        }

        private boolean scriptAsSaid(int at) {
            if (!table.lies(at, 2) || !tagsAsSaid(at + 2, false)) {
                return false;
            }
            int standard = table.u16(at);
            if (standard != 0 && !languageAsSaid(at + standard)) {
                return false;
            }
            int many = table.u16(at + 2);
            for (int k = 0; k < many; k++) {
                if (!languageAsSaid(at + table.u16(at + 8 + 6 * k))) {
                    return false;
                }
            }
            return true;
        }

        private boolean languageAsSaid(int at) {
            // Where FEATURES lie outside, u16 answers 0, and no number is below that: as is due.
            int features = table.u16(table.u16(AT_FEATURES));
            if (!table.lies(at, 4)) {
                return false;
            }
            int required = table.u16(at + 2);
            return (required == NOTHING_REQUIRED || required < features)
                    && numbersAsSaid(at + 4, features);
        }

        boolean featuresAsSaid() {
            int at = table.u16(AT_FEATURES);
            if (!tagsAsSaid(at, true)) {
                return false;
            }
            int lookups = table.u16(table.u16(AT_LOOKUPS));
            int many = table.u16(at);
            for (int k = 0; k < many; k++) {
                int feature = at + table.u16(at + 6 + 6 * k);
                if (!numbersAsSaid(feature + 2, lookups)) {
                    return false;
                }
            }
            return true;
        }

        /** A list of tags and places; what they lead to is not looked at here. */
        private boolean tagsAsSaid(int at, boolean equalToo) {
            if (!listLies(at, MOST_LISTED, 6)) {
                return false;
            }
            int many = table.u16(at);
            for (int k = 1; k < many; k++) {
                int order = Integer.compareUnsigned(
                        table.u32(at + 2 + 6 * k), table.u32(at - 4 + 6 * k));
                if (order < 0 || order == 0 && !equalToo) {
                    return false;
                }
            }
            return true;
        }

        private boolean numbersAsSaid(int at, int below) {
            if (!listLies(at, MOST_LISTED, 2)) {
                return false;
            }
            int many = table.u16(at);
            for (int k = 0; k < many; k++) {
                if (table.u16(at + 2 + 2 * k) >= below) {
                    return false;
                }
            }
            return true;
        }

        /** How many there are, at most so many, and as many things of one size behind that. */
        private boolean listLies(int at, int most, int size) {
            if (!table.lies(at, 2)) {
                return false;
            }
            int many = table.u16(at);
            return many <= most && table.lies(at + 2, many * size);
        }

        /** As listLies, of things by INDEX: there are as many as are covered. */
        private boolean listByIndexLies(int at, int covered, int size) {
            return listLies(at, MOST_BY_INDEX, size) && table.u16(at) == covered;
        }

        boolean lookupsAsSaid() {
            lookedAt = 0;
            int at = table.u16(AT_LOOKUPS);
            if (!listLies(at, MOST_LISTED, 2)) {
                return false;
            }
            int many = table.u16(at);
            for (int k = 0; k < many; k++) {
                int lookup = at + table.u16(at + 2 + 2 * k);
                if (!lookupHeadAsSaid(lookup)) {
                    return false;
                }
                int subtables = table.u16(lookup + 4);
                for (int s = 0; s < subtables; s++) {
                    if (!subtableAsSaid(lookup, s)) {
                        return false;
                    }
                }
            }
            return true;
        }

        private boolean lookupHeadAsSaid(int at) {
            if (!table.lies(at, 4)) {
                return false;
            }
            int type = table.u16(at);
            int flag = table.u16(at + 2);
            return (type >= SINGLE && type <= MARK_TO_MARK || type == EXTENSION)
                    && (flag & 16) == 0 && listLies(at + 4, MOST_SUBTABLES, 2);
        }

        private boolean subtableAsSaid(int lookup, int number) {
            int type = table.u16(lookup);
            int at = lookup + table.u16(lookup + 6 + 2 * number);
            if (type == EXTENSION) {
                if (!extensionAsSaid(at, lookup + table.u16(lookup + 6))) {
                    return false;
                }
                type = table.u16(at + 2);
                at += table.u32(at + 4);
            }
            switch (type) {
                case SINGLE:
                    return singleAsSaid(at);
                case PAIR:
                    return pairAsSaid(at);
                case CURSIVE:
                    return cursiveAsSaid(at);
                default:
                    return marksOnAsSaid(type, at);
            }
        }

        private boolean extensionAsSaid(int at, int firstOfLookup) {
            if (!table.lies(at, 8) || table.u16(at) != 1) {
                return false;
            }
            int type = table.u16(at + 2);
            int place = table.u32(at + 4);
            return type >= SINGLE && type <= MARK_TO_MARK
                    && type == table.u16(firstOfLookup + 2)
                    && place >= 0 && place <= MOST_BYTES;
        }

        private boolean singleAsSaid(int at) {
            if (!table.lies(at, 6)) {
                return false;
            }
            int form = table.u16(at);
            int bits = table.u16(at + 4);
            int covered = covered(at + table.u16(at + 2));
            if (bits > 255 || covered == NONE) {
                return false;
            }
            if (form == 1) {
                return table.lies(at + 6, sizeOfValue(bits));
            }
            return form == 2 && listByIndexLies(at + 6, covered, sizeOfValue(bits));
        }

        private boolean pairAsSaid(int at) {
            if (!table.lies(at, 8)) {
                return false;
            }
            int form = table.u16(at);
            int bits = table.u16(at + 4);
            int bitsOfSecond = table.u16(at + 6);
            int covered = covered(at + table.u16(at + 2));
            if (bits > 255 || bitsOfSecond > 255 || covered == NONE) {
                return false;
            }
            int size = sizeOfValue(bits) + sizeOfValue(bitsOfSecond);
            if (form == 1) {
                return pairRowsAsSaid(at, covered, 2 + size);
            }
            return form == 2 && pairClassesAsSaid(at, size);
        }

        private boolean pairRowsAsSaid(int at, int covered, int size) {
            if (!listByIndexLies(at + 8, covered, 2)) {
                return false;
            }
            for (int k = 0; k < covered; k++) {
                int row = at + table.u16(at + 10 + 2 * k);
                if (!looksAtOneMore() || !listLies(row, MOST_BY_INDEX, size)
                        || !glyphsRise(row + 2, table.u16(row), size)) {
                    return false;
                }
            }
            return true;
        }

        private boolean pairClassesAsSaid(int at, int size) {
            if (!table.lies(at, 16)) {
                return false;
            }
            int firsts = table.u16(at + 12);
            int seconds = table.u16(at + 14);
            return firsts <= MOST_BY_INDEX && seconds <= MOST_BY_INDEX
                    && table.lies(at + 16, firsts * seconds * size)
                    && classesAsSaid(at + table.u16(at + 8))
                    && classesAsSaid(at + table.u16(at + 10));
        }

        private boolean cursiveAsSaid(int at) {
            if (!table.lies(at, 4) || table.u16(at) != 1) {
                return false;
            }
            int covered = covered(at + table.u16(at + 2));
            return covered != NONE && listByIndexLies(at + 4, covered, 4)
                    && anchorsAsSaid(at, at + 6, 2 * covered);
        }

        /** TYPES 4 to 6. */
        private boolean marksOnAsSaid(int type, int at) {
            if (!table.lies(at, 12) || table.u16(at) != 1) {
                return false;
            }
            int marks = covered(at + table.u16(at + 2));
            int bases = covered(at + table.u16(at + 4));
            int classes = table.u16(at + 6);
            if (marks == NONE || bases == NONE || classes > MOST_MARK_CLASSES
                    || !marksAsSaid(at + table.u16(at + 8), marks, classes)) {
                return false;
            }
            int atBases = at + table.u16(at + 10);
            if (type == MARK_TO_LIGATURE) {
                return ligaturesAsSaid(atBases, bases, classes);
            }
            return listByIndexLies(atBases, bases, 2 * classes)
                    && anchorsAsSaid(atBases, atBases + 2, bases * classes);
        }

        private boolean marksAsSaid(int at, int covered, int classes) {
            if (!listByIndexLies(at, covered, 4)) {
                return false;
            }
            for (int k = 0; k < covered; k++) {
                int record = at + 2 + 4 * k;
                if (table.u16(record) >= classes || !anchorAsSaid(at + table.u16(record + 2))) {
                    return false;
                }
            }
            return true;
        }

        private boolean ligaturesAsSaid(int at, int covered, int classes) {
            if (!listByIndexLies(at, covered, 2)) {
                return false;
            }
            for (int k = 0; k < covered; k++) {
                int ligature = at + table.u16(at + 2 + 2 * k);
                if (!looksAtOneMore() || !listLies(ligature, MOST_PARTS, 2 * classes)) {
                    return false;
                }
                int parts = table.u16(ligature);
                if (parts == 0 || !anchorsAsSaid(ligature, ligature + 2, parts * classes)) {
                    return false;
                }
            }
            return true;
        }

        /** What the places from at on lead to, counted from the part; 0 leads to none. */
        private boolean anchorsAsSaid(int part, int at, int many) {
            for (int k = 0; k < many; k++) {
                int place = table.u16(at + 2 * k);
                if (place != 0 && !anchorAsSaid(part + place)) {
                    return false;
                }
            }
            return true;
        }

        private boolean anchorAsSaid(int at) {
            if (!looksAtOneMore() || !table.lies(at, 6)) {
                return false;
            }
            int form = table.u16(at);
            return form >= 1 && form <= 3;
        }

        /** How many glyphs a COVERAGE covers, NONE if it is not as said. */
        private int covered(int at) {
            if (!looksAtOneMore() || !table.lies(at, 4)) {
                return NONE;
            }
            int form = table.u16(at);
            int many = table.u16(at + 2);
            if (form == 1) {
                return table.lies(at + 4, 2 * many) && glyphsRise(at + 4, many, 2) ? many : NONE;
            }
            if (form != 2 || !table.lies(at + 4, 6 * many) || !rangesRise(at + 4, many)) {
                return NONE;
            }
            int covered = 0;
            for (int range = at + 4; range < at + 4 + 6 * many; range += 6) {
                if (table.u16(range + 4) != covered) {
                    return NONE;
                }
                covered += table.u16(range + 2) - table.u16(range) + 1;
            }
            return covered;
        }

        private boolean classesAsSaid(int at) {
            if (!looksAtOneMore() || !table.lies(at, 4)) {
                return false;
            }
            int form = table.u16(at);
            if (form == 1) {
                int many = table.u16(at + 4);
                return table.lies(at, 6) && table.lies(at + 6, 2 * many)
                        && table.u16(at + 2) + many <= HIGHEST_U16 + 1;
            }
            int many = table.u16(at + 2);
            return form == 2 && table.lies(at + 4, 6 * many) && rangesRise(at + 4, many);
        }

        private boolean glyphsRise(int at, int many, int step) {
            int before = NONE;
            for (int k = 0; k < many; k++) {
                int glyph = table.u16(at + step * k);
                if (glyph <= before) {
                    return false;
                }
                before = glyph;
            }
            return true;
        }

        private boolean rangesRise(int at, int many) {
            int before = NONE;
            for (int k = 0; k < many; k++) {
                int first = table.u16(at + 6 * k);
                int last = table.u16(at + 6 * k + 2);
                if (first <= before || first > last) {
                    return false;
                }
                before = last;
            }
            return true;
        }

        private boolean looksAtOneMore() {
            lookedAt++;
            return lookedAt <= MOST_LOOKED_AT;
        }
    }

    /** Ranges of glyphs with their KIND and CLASS OF MARKS, in the order told. */
    private static final class Kinds {
        private final int[] first = new int[MOST_RANGES];
        private final int[] last = new int[MOST_RANGES];
        private final int[] kind = new int[MOST_RANGES];
        private final int[] marks = new int[MOST_RANGES];
        private int count;

        boolean tell(int first, int last, int kind, int marks) {
            if (count >= MOST_RANGES) {
                return false;
            }
            this.first[count] = first;
            this.last[count] = last;
            this.kind[count] = kind;
            this.marks[count] = marks;
            count++;
            return true;
        }

        int drop() {
            int were = count;
            count = 0;
            return were;
        }

        /** The range told last that holds the glyph, NONE if none does. */
        int rangeOf(int glyph) {
            for (int k = count - 1; k >= 0; k--) {
                if (glyph >= first[k] && glyph <= last[k]) {
                    return k;
                }
            }
            return NONE;
        }
    }

    /** The tags of features that were told, as on or as off. */
    private static final class Tags {
        private final int[] tag = new int[MOST_TAGS];
        private final boolean[] on = new boolean[MOST_TAGS];
        private int count;

        boolean tell(int tag, boolean on) {
            int k = find(tag);
            if (k == NONE) {
                if (count >= MOST_TAGS) {
                    return false;
                }
                k = count;
                count++;
            }
            this.tag[k] = tag;
            this.on[k] = on;
            return true;
        }

        boolean isOn(int tag) {
            int k = find(tag);
            return k != NONE && on[k];
        }

        private int find(int tag) {
            for (int k = 0; k < count; k++) {
                if (this.tag[k] == tag) {
                    return k;
                }
            }
            return NONE;
        }
    }

    /** The glyphs told. */
    private static final class Told {
        private final int[] glyph = new int[MOST_GLYPHS];
        private final int[] width = new int[MOST_GLYPHS];
        private final int[] part = new int[MOST_GLYPHS];
        private int count;

        boolean append(int glyph, int width, int part) {
            if (count >= MOST_GLYPHS) {
                return false;
            }
            this.glyph[count] = glyph;
            this.width[count] = width;
            this.part[count] = part;
            count++;
            return true;
        }

        int drop() {
            int were = count;
            count = 0;
            return were;
        }
    }

    /** Which lookups the script, the language and the features that are on ask for. */
    private static final class Choice {
        private final Table font;
        private final Tags tags;
        private final boolean[] wanted = new boolean[MOST_LISTED];

        Choice(Table font, Tags tags) {
            this.font = font;
            this.tags = tags;
        }

        void find(int script, int language) {
            for (int k = 0; k < MOST_LISTED; k++) {
                wanted[k] = false;
            }
            int at = languageAt(script, language);
            if (at == NONE) {
                return;
            }
            int required = font.u16(at + 2);
            if (required != NOTHING_REQUIRED) {
                wantLookupsOf(required);
            }
            int features = font.u16(AT_FEATURES);
            int many = font.u16(at + 4);
            for (int k = 0; k < many; k++) {
                int number = font.u16(at + 6 + 2 * k);
                if (tags.isOn(font.u32(features + 2 + 6 * number))) {
                    wantLookupsOf(number);
                }
            }
        }

        private int languageAt(int script, int language) {
            int scripts = font.u16(AT_SCRIPTS);
            int place = placeByTag(scripts, script);
            if (place == NONE) {
                place = placeByTag(scripts, DFLT);
            }
            if (place == NONE) {
                return NONE;
            }
            int at = scripts + place;
            place = placeByTag(at + 2, language);
            if (place != NONE) {
                return at + place;
            }
            int standard = font.u16(at);
            return standard == 0 ? NONE : at + standard;
        }

        private int placeByTag(int list, int tag) {
            int many = font.u16(list);
            for (int k = 0; k < many; k++) {
                if (font.u32(list + 2 + 6 * k) == tag) {
                    return font.u16(list + 6 + 6 * k);
                }
            }
            return NONE;
        }

        private void wantLookupsOf(int feature) {
            int features = font.u16(AT_FEATURES);
            int at = features + font.u16(features + 6 + 6 * feature);
            int many = font.u16(at + 2);
            for (int k = 0; k < many; k++) {
                int number = font.u16(at + 4 + 2 * k);
                if (number < MOST_LISTED) {
                    wanted[number] = true;
                }
            }
        }
    }

    /** COVERAGES and CLASSES of a table that is loaded, asked for a glyph. */
    private static final class GlyphSets {
        /** The INDEX of a glyph by a COVERAGE, NONE if it is not covered. */
        static int indexOf(Table font, int at, int glyph) {
            boolean ranges = font.u16(at) == 2;
            int step = ranges ? 6 : 2;
            int k = lastUpTo(font, at + 4, font.u16(at + 2), step, glyph);
            if (k == NONE) {
                return NONE;
            }
            int entry = at + 4 + step * k;
            if (ranges) {
                int behindFirst = glyph - font.u16(entry);
                return glyph <= font.u16(entry + 2) ? font.u16(entry + 4) + behindFirst : NONE;
            }
            return glyph == font.u16(entry) ? k : NONE;
        }

        static int classOf(Table font, int at, int glyph) {
            if (font.u16(at) == 1) {
                int k = glyph - font.u16(at + 2);
                return k >= 0 && k < font.u16(at + 4) ? font.u16(at + 6 + 2 * k) : 0;
            }
            int k = lastUpTo(font, at + 4, font.u16(at + 2), 6, glyph);
            int range = at + 4 + 6 * k;
            return k != NONE && glyph <= font.u16(range + 2) ? font.u16(range + 4) : 0;
        }

        /** The last of the entries that does not begin above the glyph, or NONE; they rise. */
        static int lastUpTo(Table font, int at, int many, int step, int glyph) {
            int low = 0;
            int high = many;
            while (low < high) {
                int middle = (low + high) >>> 1;
                if (font.u16(at + step * middle) <= glyph) {
                    low = middle + 1;
                } else {
                    high = middle;
                }
            }
            return low - 1;
        }
    }

    /** A run of glyphs: what each one's place is, and on what it hangs. */
    private static final class Run {
        private final int[] width = new int[MOST_GLYPHS];
        private final int[] higher = new int[MOST_GLYPHS];
        private final int[] right = new int[MOST_GLYPHS];
        private final int[] up = new int[MOST_GLYPHS];
        private final int[] hangsOn = new int[MOST_GLYPHS];
        private final boolean[] hangsByCursive = new boolean[MOST_GLYPHS];
        private final int[] hangsRight = new int[MOST_GLYPHS];
        private final int[] hangsUp = new int[MOST_GLYPHS];
        private int count;

        void start(Told told) {
            count = told.count;
            for (int i = 0; i < count; i++) {
                width[i] = told.width[i];
                higher[i] = 0;
                right[i] = 0;
                up[i] = 0;
                hangsOn[i] = NONE;
            }
        }

        /** One number of a VALUE, by its bit; from bit 4 on they change nothing. */
        void getMore(int i, int bit, int by) {
            if (i < 0 || i >= count) {
                return;
            }
            switch (bit) {
                case 0:
                    right[i] += by;
                    break;
                case 1:
                    up[i] += by;
                    break;
                case 2:
                    width[i] += by;
                    break;
                case 3:
                    higher[i] += by;
                    break;
                default:
                    break;
            }
        }

        /** The width of one ends at an anchor, the other one's begins at one. */
        void join(int ending, int endX, int beginning, int beginX) {
            width[ending] = endX + right[ending];
            int less = beginX + right[beginning];
            width[beginning] -= less;
            right[beginning] -= less;
        }

        void hangByCursive(int i, int on, int byUp) {
            hangsOn[i] = on;
            hangsByCursive[i] = true;
            hangsUp[i] = byUp;
        }

        void hangByMark(int i, int on, int byRight, int byUp) {
            hangsOn[i] = on;
            hangsByCursive[i] = false;
            hangsRight[i] = byRight;
            hangsUp[i] = byUp;
            right[i] = 0;
            up[i] = 0;
        }

        /** Who hangs always stands behind what it hangs on, so that one is finished already. */
        void finish(boolean back) {
            for (int i = 0; i < count; i++) {
                int on = hangsOn[i];
                if (on < 0 || on >= i) {
                    continue;
                }
                up[i] += hangsUp[i] + up[on];
                if (hangsByCursive[i]) {
                    continue;
                }
                right[i] += hangsRight[i] + right[on];
                if (back) {
                    goOver(i, on + 1, i + 1, 1);
                } else {
                    goOver(i, on, i, -1);
                }
            }
        }

        private void goOver(int i, int from, int end, int sign) {
            for (int k = from; k < end; k++) {
                right[i] += sign * width[k];
                up[i] += sign * higher[k];
            }
        }

        int widthsBefore(int i) {
            int sum = 0;
            for (int k = 0; k < i; k++) {
                sum += width[k];
            }
            return sum;
        }
    }

    /** SETTING: carries out lookups of a table that is loaded on a run. */
    private static final class Setter {
        private final Table font;
        private final Told told;
        private final Kinds kinds;
        private final Run run;
        private final int[] kind = new int[MOST_GLYPHS];
        private final int[] marks = new int[MOST_GLYPHS];
        private final int[] noMarkBefore = new int[MOST_GLYPHS];
        private final boolean[] passedOver = new boolean[MOST_GLYPHS];
        private final int[] before = new int[MOST_GLYPHS];
        private final int[] next = new int[MOST_GLYPHS];
        private boolean back;

        Setter(Table font, Told told, Kinds kinds, Run run) {
            this.font = font;
            this.told = told;
            this.kinds = kinds;
            this.run = run;
        }

        void start(boolean back) {
            this.back = back;
            int noMark = NONE;
            for (int i = 0; i < run.count; i++) {
                int range = kinds.rangeOf(told.glyph[i]);
                kind[i] = range == NONE ? 0 : kinds.kind[range];
                marks[i] = range == NONE ? 0 : kinds.marks[range];
                noMarkBefore[i] = noMark;
                if (kind[i] != MARK_KIND) {
                    noMark = i;
                }
            }
        }

        void carryOut(int number) {
            int lookups = font.u16(AT_LOOKUPS);
            int lookup = lookups + font.u16(lookups + 2 + 2 * number);
            findPassedOver(font.u16(lookup + 2));
            int subtables = font.u16(lookup + 4);
            int goOn = 0;
            for (int i = 0; i < run.count; i++) {
                if (i < goOn || passedOver[i]) {
                    continue;
                }
                int taken = NONE;
                for (int s = 0; s < subtables && taken == NONE; s++) {
                    taken = take(lookup, s, i);
                }
                goOn = taken == NONE ? i + 1 : taken;
            }
        }

        private void findPassedOver(int flag) {
            int near = NONE;
            for (int i = 0; i < run.count; i++) {
                passedOver[i] = passesOver(flag, kind[i], marks[i]);
                before[i] = near;
                near = passedOver[i] ? near : i;
            }
            near = NONE;
            for (int i = run.count - 1; i >= 0; i--) {
                next[i] = near;
                near = passedOver[i] ? near : i;
            }
        }

        private static boolean passesOver(int flag, int kind, int marks) {
            int only = flag >> 8;
            switch (kind) {
                case BASE_KIND:
                    return (flag & 2) != 0;
                case LIGATURE_KIND:
                    return (flag & 4) != 0;
                case MARK_KIND:
                    return (flag & 8) != 0 || only != 0 && only != marks;
                default:
                    return false;
            }
        }

        /** With which glyph the lookup goes on; NONE if the subtable does not take this one. */
        private int take(int lookup, int subtable, int i) {
            int type = font.u16(lookup);
            int at = lookup + font.u16(lookup + 6 + 2 * subtable);
            if (type == EXTENSION) {
                type = font.u16(at + 2);
                at += font.u32(at + 4);
            }
            switch (type) {
                case SINGLE:
                    return takeSingle(at, i) ? i + 1 : NONE;
                case PAIR:
                    return takePair(at, i);
                case CURSIVE:
                    return takeCursive(at, i) ? i + 1 : NONE;
                default:
                    return takeMark(type, at, i) ? i + 1 : NONE;
            }
        }

        private boolean takeSingle(int at, int i) {
            int index = indexAt(at + 2, at, i);
            if (index == NONE) {
                return false;
            }
            int bits = font.u16(at + 4);
            int value = font.u16(at) == 1 ? at + 6 : at + 8 + index * sizeOfValue(bits);
            giveValue(i, value, bits);
            return true;
        }

        private int takePair(int at, int i) {
            int index = indexAt(at + 2, at, i);
            int second = next[i];
            if (index == NONE || second == NONE) {
                return NONE;
            }
            int bits = font.u16(at + 4);
            int bitsOfSecond = font.u16(at + 6);
            int size = sizeOfValue(bits) + sizeOfValue(bitsOfSecond);
            int values = font.u16(at) == 1
                    ? valuesInRow(at + font.u16(at + 10 + 2 * index), size, second)
                    : valuesByClasses(at, size, i, second);
            if (values == NONE) {
                return NONE;
            }
            giveValue(i, values, bits);
            giveValue(second, values + sizeOfValue(bits), bitsOfSecond);
            return bitsOfSecond == 0 ? i + 1 : second + 1;
        }

        private int valuesInRow(int row, int size, int second) {
            int step = 2 + size;
            int glyph = told.glyph[second];
            int k = GlyphSets.lastUpTo(font, row + 2, font.u16(row), step, glyph);
            int entry = row + 2 + step * k;
            return k != NONE && font.u16(entry) == glyph ? entry + 2 : NONE;
        }

        private int valuesByClasses(int at, int size, int i, int second) {
            int classOfFirst = GlyphSets.classOf(font, at + font.u16(at + 8), told.glyph[i]);
            int classOfSecond = GlyphSets.classOf(font, at + font.u16(at + 10), told.glyph[second]);
            int firsts = font.u16(at + 12);
            int seconds = font.u16(at + 14);
            if (classOfFirst >= firsts || classOfSecond >= seconds) {
                return NONE;
            }
            return at + 16 + (classOfFirst * seconds + classOfSecond) * size;
        }

        private void giveValue(int i, int at, int bits) {
            int from = at;
            for (int bit = 0; bit < 4; bit++) {
                if ((bits >> bit & 1) != 0) {
                    run.getMore(i, bit, font.s16(from));
                    from += 2;
                }
            }
        }

        private boolean takeCursive(int at, int i) {
            int second = next[i];
            if (second == NONE) {
                return false;
            }
            int index = indexAt(at + 2, at, i);
            int indexOfSecond = indexAt(at + 2, at, second);
            if (index == NONE || indexOfSecond == NONE) {
                return false;
            }
            int exit = anchorAt(at + 8 + 4 * index, at);
            int entry = anchorAt(at + 6 + 4 * indexOfSecond, at);
            if (exit == NONE || entry == NONE) {
                return false;
            }
            if (back) {
                run.join(second, font.s16(entry + 2), i, font.s16(exit + 2));
            } else {
                run.join(i, font.s16(exit + 2), second, font.s16(entry + 2));
            }
            run.hangByCursive(second, i, font.s16(exit + 4) - font.s16(entry + 4));
            return true;
        }

        /** TYPES 4 to 6. */
        private boolean takeMark(int type, int at, int i) {
            int on = type == MARK_TO_MARK ? before[i] : noMarkBefore[i];
            if (on == NONE || type == MARK_TO_MARK && kind[on] != MARK_KIND) {
                return false;
            }
            int mark = indexAt(at + 2, at, i);
            int base = indexAt(at + 4, at, on);
            if (mark == NONE || base == NONE) {
                return false;
            }
            int atMarks = at + font.u16(at + 8);
            int record = atMarks + 2 + 4 * mark;
            int own = atMarks + font.u16(record + 2);
            int anchor = anchorOn(type, at, base, font.u16(record), told.part[i]);
            if (anchor == NONE) {
                return false;
            }
            run.hangByMark(i, on, font.s16(anchor + 2) - font.s16(own + 2),
                    font.s16(anchor + 4) - font.s16(own + 4));
            return true;
        }

        /** Where the ANCHOR of what a mark would hang on stands, NONE if it has none. */
        private int anchorOn(int type, int at, int base, int markClass, int part) {
            int classes = font.u16(at + 6);
            int bases = at + font.u16(at + 10);
            if (type != MARK_TO_LIGATURE) {
                return anchorAt(bases + 2 + 2 * (base * classes + markClass), bases);
            }
            int ligature = bases + font.u16(bases + 2 + 2 * base);
            int parts = font.u16(ligature);
            int counted = part == 0 || part > parts ? parts : part;
            return anchorAt(ligature + 2 + 2 * ((counted - 1) * classes + markClass), ligature);
        }

        /** The INDEX of glyph i by the COVERAGE whose place, from the part on, stands there. */
        private int indexAt(int place, int part, int i) {
            return GlyphSets.indexOf(font, part + font.u16(place), told.glyph[i]);
        }

        private int anchorAt(int place, int part) {
            int far = font.u16(place);
            return far == 0 ? NONE : part + far;
        }
    }
}
