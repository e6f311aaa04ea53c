/** Layers under the hills: the face of ../shared/DOC.md; the classes inside are ordered as its sections. */
public final class HillLand {
    public static final int NONE = -1, UNKNOWN = -100001, OUTSIDE = -100002, NOT = -100003, FULL = -100004, LARGE = -100005;

    private static final int SIDE = 8, COLUMNS = 64, LOWEST = -40, HIGHEST = 39, CELLS = 80, NOWHERE = -41;
    private static final int BEDS = 16, ROOT = 15, AGED = 8;
    private static final int MOST_EVENTS = 16, MOST_LOOSE = 4, MOST_SIGHTS = 30, MOST_CLAIMS = 24;
    private static final int MOST_MAYBE = 4, MOST_STORIES = 65, MOST_BYTES = 300, VERSIONS = 4;

    private final Tale events = new Tale();
    private final Tale mights = new Tale();
    private final Tale draft = new Tale();
    private final Tale[] versions = new Tale[VERSIONS];
    private final boolean[] isKept = new boolean[VERSIONS];
    private final Text text = new Text();
    private final Columns land = new Columns(COLUMNS);
    private final Column other = new Column();
    private final Ends ends = new Ends();
    private final Sights sights = new Sights();
    private final Ages ages = new Ages();
    private final Drawing drawing = new Drawing();
    private final Telling telling = new Telling();
    private final NextHole hole = new NextHole();

    public HillLand() {
        for (int v = 0; v < versions.length; v++) versions[v] = new Tale();
    }

    // ---- events

    public int event(int kind, int a, int b, int c, int d, int e) {
        if (!Kinds.allow(kind, a, b, c, d, e)) return OUTSIDE;
        if (events.size() >= MOST_EVENTS) return FULL;
        events.add(kind, a, b, c, d, e);
        renew();
        return events.size() - 1;
    }

    public int undo() {
        if (events.size() == 0) return NOT;
        events.shorten();
        renew();
        return events.size();
    }

    public int clear() {
        int many = events.size();
        events.empty();
        renew();
        return many;
    }

    public int told(int i, int what) {
        if (!events.has(i)) return UNKNOWN;
        if (what < 0 || what > 6) return OUTSIDE;
        if (what == 0) return events.kind(i);
        return what == 6 ? flag(events.isLoose(i)) : events.number(i, what - 1);
    }

    public int loose(int i, boolean is) {
        if (!events.has(i)) return UNKNOWN;
        int was = flag(events.isLoose(i));
        events.setLoose(i, is);
        ends.doubt();
        return was;
    }

    public int swap(int i) {
        if (i < 0 || i >= events.size() - 1) return UNKNOWN;
        events.exchange(i);
        int unlike = unlikeColumns(events);
        renew();
        return unlike;
    }

    public int count(int what) {
        switch (what) {
            case 0: return events.size();
            case 1: return events.looseOnes();
            case 2: return sights.size();
            case 3: return ages.claims();
            case 4: return mights.size();
            case 5: return keptVersions();
            case 6: return text.size();
            case 7: return land.crossings(events);
            case 8: return sights.unmetOf(land);
            default: return OUTSIDE;
        }
    }

    // ---- the text

    public int feed(int n, long bytes) {
        if (n < 1 || n > 8) return OUTSIDE;
        if (text.size() > MOST_BYTES - n) return FULL;
        for (int i = n - 1; i >= 0; i--) text.add((int) (bytes >>> (8 * i)) & 255);
        return text.size();
    }

    public int read() {
        int number = text.parse(draft);
        text.empty();
        if (number != 0) return -10 - number;
        events.become(draft);
        renew();
        return events.size();
    }

    public int fault() {
        return text.faultAt();
    }

    // ---- the land

    public int at(int x, int y, int height) {
        if (!isStep(x) || !isStep(y) || !isHeight(height)) return OUTSIDE;
        return land.of(columnNumber(x, y)).bedAt(height);
    }

    public int skin(int x, int y, int what) {
        if (!isStep(x) || !isStep(y) || what < 0 || what > 1) return OUTSIDE;
        Column column = land.of(columnNumber(x, y));
        return what == 0 ? column.skinHeight() : column.skinBed();
    }

    public int top(int bed, int x, int y, int what) {
        if (!isBed(bed) || !isStep(x) || !isStep(y) || what < 0 || what > 1) return OUTSIDE;
        Column column = land.of(columnNumber(x, y));
        return what == 0 ? column.topOf(bed) : column.cellsOf(bed);
    }

    public int was(int k, int x, int y, int height) {
        if (k < 0 || k > events.size() || !isStep(x) || !isStep(y) || !isHeight(height)) return OUTSIDE;
        other.tell(events, k, columnNumber(x, y));
        return other.bedAt(height);
    }

    public int amount(int bed, int what) {
        if (!isBed(bed) || what < 0 || what > 2) return OUTSIDE;
        if (what == 0) return land.cellsOf(bed);
        if (events.looseOnes() > MOST_LOOSE) return LARGE;
        ends.know(events);
        return what == 1 ? ends.least(bed) : ends.greatest(bed);
    }

    public int youth(int bed) {
        if (bed < 0 || bed >= ROOT) return OUTSIDE;
        return events.birthOf(bed);
    }

    // ---- versions

    public int keep(int v) {
        if (v < 0 || v >= VERSIONS) return OUTSIDE;
        version(v).become(events);
        if (v < isKept.length) isKept[v] = true;
        return events.size();
    }

    public int back(int v) {
        if (!hasVersion(v)) return UNKNOWN;
        events.become(version(v));
        renew();
        return events.size();
    }

    public int differ(int v, int what) {
        if (!hasVersion(v)) return UNKNOWN;
        switch (what) {
            case 0: return unlikeColumns(version(v));
            case 1: return firstUnlikeColumn(version(v));
            case 2: return unlikeCells(version(v));
            case 3: return events.alikeAhead(version(v));
            default: return OUTSIDE;
        }
    }

    // ---- sights

    public int sight(int kind, int x, int y, int b, int p, int q) {
        if (!Sights.allow(kind, x, y, b, p, q)) return OUTSIDE;
        if (sights.size() >= MOST_SIGHTS) return FULL;
        sights.add(kind, x, y, b, p, q);
        telling.doubt();
        return sights.size() - 1;
    }

    public int met(int i) {
        if (!sights.has(i)) return UNKNOWN;
        return flag(sights.isMetBy(land, i));
    }

    public int unmet(int k, int i) {
        if (!isKnown(k)) return OUTSIDE;
        return sights.unmetAmong(land, knownOf(k), i);
    }

    public int forget() {
        if (sights.size() == 0) return NOT;
        sights.shorten();
        telling.doubt();
        return sights.size();
    }

    // ---- ages

    public int claim(int a, int b, int weight) {
        if (!isBelow(a, AGED) || !isBelow(b, AGED) || a == b || weight < 1 || weight > 99) return OUTSIDE;
        if (ages.claims() >= MOST_CLAIMS) return FULL;
        ages.add(a, b, weight);
        return ages.claims() - 1;
    }

    public int row(int n, int i) {
        if (n < 2 || n > AGED || i != NONE && !isBelow(i, n)) return OUTSIDE;
        return i == NONE ? ages.leastQuarrel(n) : ages.bedInRow(n, i);
    }

    public int sure(int n, int a, int b) {
        if (n < 2 || n > AGED || !isBelow(a, n) || !isBelow(b, n) || a == b) return OUTSIDE;
        return ages.surely(n, a, b);
    }

    public int broken() {
        return ages.brokenBy(events);
    }

    // ---- drawings

    public int draw(int bed, int axis, int line, int k, int i) {
        if (!isBed(bed) || !isAxis(axis) || !isStep(line) || !isKnown(k)) return OUTSIDE;
        if (i != NONE && !isStep(i)) return OUTSIDE;
        drawing.open();
        sights.narrow(drawing, bed, axis, line, knownOf(k));
        if (!drawing.isPossible()) return NOT;
        drawing.know();
        return i == NONE ? drawing.bend() : drawing.height(i);
    }

    // ---- stories

    public int maybe(int kind, int a, int b, int c, int d, int e) {
        if (!Kinds.allow(kind, a, b, c, d, e)) return OUTSIDE;
        if (mights.size() >= MOST_MAYBE) return FULL;
        mights.add(kind, a, b, c, d, e);
        telling.doubt();
        return mights.size() - 1;
    }

    public int never() {
        int many = mights.size();
        mights.empty();
        telling.doubt();
        return many;
    }

    public int stories(int k) {
        int refusal = tellStories(k);
        return refusal != 0 ? refusal : telling.fits();
    }

    public int story(int k, int i, int j) {
        int refusal = tellStories(k);
        if (refusal != 0) return refusal;
        if (!isBelow(i, telling.fits())) return NONE;
        return j == NONE ? telling.length(telling.fitting(i)) : telling.part(telling.fitting(i), j);
    }

    public int next(int k, int what) {
        if (what < 0 || what > 2) return OUTSIDE;
        int refusal = tellStories(k);
        if (refusal != 0) return refusal;
        if (telling.fits() == 0) return NOT;
        hole.know(telling, land, mights);
        if (what == 0) return hole.column();
        return what == 1 ? hole.unlike() : hole.greatest();
    }

    public int take(int k, int i) {
        int refusal = tellStories(k);
        if (refusal != 0) return refusal;
        if (!isBelow(i, telling.fits())) return NOT;
        int story = telling.fitting(i);
        for (int j = 0; j < telling.length(story); j++) events.addFrom(mights, telling.part(story, j));
        renew();
        return events.size();
    }

    // ---- what several calls need

    private void renew() {
        land.tell(events, events.size());
        ends.doubt();
        telling.doubt();
    }

    /** Makes the STORIES known, AS KNOWN by k, and answers 0; or what refuses it. */
    private int tellStories(int k) {
        if (!isKnown(k)) return OUTSIDE;
        if (events.size() + mights.size() > MOST_EVENTS) return FULL;
        telling.know(land, mights, sights, knownOf(k));
        return 0;
    }

    private boolean isKnown(int k) {
        return k >= NONE && k <= sights.size();
    }

    private int knownOf(int k) {
        return k == NONE ? sights.size() : k;
    }

    private boolean hasVersion(int v) {
        return v >= 0 && v < isKept.length && isKept[v];
    }

    private Tale version(int v) {
        if (v < 0 || v >= versions.length || versions[v] == null) return draft;
        return versions[v];
    }

    private int keptVersions() {
        int many = 0;
        for (int v = 0; v < isKept.length; v++) {
            if (isKept[v]) many++;
        }
        return many;
    }

    private int unlikeColumns(Tale tale) {
        int many = 0;
        for (int n = 0; n < COLUMNS; n++) {
            if (unlikeCellsAt(tale, n) > 0) many++;
        }
        return many;
    }

    private int firstUnlikeColumn(Tale tale) {
        for (int n = 0; n < COLUMNS; n++) {
            if (unlikeCellsAt(tale, n) > 0) return n;
        }
        return NONE;
    }

    private int unlikeCells(Tale tale) {
        int many = 0;
        for (int n = 0; n < COLUMNS; n++) many += unlikeCellsAt(tale, n);
        return many;
    }

    private int unlikeCellsAt(Tale tale, int number) {
        other.tell(tale, tale.size(), number);
        return other.unlikeCells(land.of(number));
    }

    private static int flag(boolean is) {
        return is ? 1 : 0;
    }

    private static boolean isBelow(int value, int end) {
        return value >= 0 && value < end;
    }

    private static boolean isStep(int step) {
        return isBelow(step, SIDE);
    }

    private static boolean isBed(int bed) {
        return isBelow(bed, BEDS);
    }

    private static boolean isAxis(int axis) {
        return axis == 0 || axis == 1;
    }

    private static boolean isHeight(int height) {
        return height >= LOWEST && height <= HIGHEST;
    }

    private static int columnNumber(int x, int y) {
        return SIDE * y + x;
    }

    private static int columnX(int number) {
        return Math.floorMod(number, SIDE);
    }

    private static int columnY(int number) {
        return Math.floorDiv(number, SIDE);
    }

    // ---- rows of numbers, that no index leaves

    private static int get(int[] row, int i) {
        if (row == null || i < 0 || i >= row.length) return 0;
        return row[i];
    }

    private static void put(int[] row, int i, int value) {
        if (row != null && i >= 0 && i < row.length) row[i] = value;
    }

    private static void fill(int[] row, int from, int end, int value) {
        if (row == null) return;
        for (int i = Math.max(0, from); i < end && i < row.length; i++) row[i] = value;
    }

    private static void copy(int[] from, int start, int[] to, int there, int many) {
        if (from == null || to == null || start < 0 || there < 0 || many <= 0) return;
        if (start > from.length - many || there > to.length - many) return;
        System.arraycopy(from, start, to, there, many);
    }

    /** The kinds of EVENTS: how many numbers each has, and their bounds. */
    private static final class Kinds {
        static final int LAY = 0, TILT = 1, FOLD = 2, BREAK = 3, CUT = 4, DYKE = 5, KINDS = 6, NUMBERS = 5;
        private static final int[] MANY = {2, 2, 4, 4, 3, 5};
        private static final int[] MAIN = {1, 0, 1, 2, 0, 4};
        private static final int[] LEAST = {
            0, 1, 0, 0, 0,
            -8, -8, 0, 0, 0,
            0, -8, 2, 0, 0,
            0, 0, -16, -2, 0,
            -30, -8, -8, 0, 0,
            0, 0, 0, 0, -40};
        private static final int[] GREATEST = {
            14, 8, 0, 0, 0,
            8, 8, 0, 0, 0,
            1, 8, 8, 7, 0,
            1, 7, 16, 2, 0,
            39, 8, 8, 0, 0,
            14, 1, 7, 7, 39};

        static boolean allow(int kind, int a, int b, int c, int d, int e) {
            if (!isBelow(kind, KINDS)) return false;
            if (kind == DYKE && d < c) return false;
            return suits(kind, 0, a) && suits(kind, 1, b) && suits(kind, 2, c) && suits(kind, 3, d) && suits(kind, 4, e);
        }

        /** Whether a number is within its bounds, or one that the kind has not. */
        static boolean suits(int kind, int place, int value) {
            if (place >= numbers(kind)) return true;
            int i = kind * NUMBERS + place;
            return value >= get(LEAST, i) && value <= get(GREATEST, i);
        }

        static int numbers(int kind) {
            return get(MANY, kind);
        }

        static int mainPlace(int kind) {
            return get(MAIN, kind);
        }

        static boolean isAxisPlace(int kind, int place) {
            return (kind == FOLD || kind == BREAK) && place == 0 || kind == DYKE && place == 1;
        }

        static String word(int kind) {
            switch (kind) {
                case LAY: return "lay";
                case TILT: return "tilt";
                case FOLD: return "fold";
                case BREAK: return "break";
                case CUT: return "cut";
                default: return "dyke";
            }
        }
    }

    /** EVENTS in the order in which they are told. */
    private static final class Tale {
        private static final int WIDTH = 7, LOOSE_PLACE = 6;
        private final int[] rows = new int[MOST_EVENTS * WIDTH];
        private final int[] aside = new int[WIDTH];
        private int size = 0;

        int size() {
            return size;
        }

        boolean has(int i) {
            return isBelow(i, size);
        }

        int kind(int i) {
            return get(rows, i * WIDTH);
        }

        int number(int i, int place) {
            return get(rows, i * WIDTH + 1 + place);
        }

        void setNumber(int i, int place, int value) {
            put(rows, i * WIDTH + 1 + place, value);
        }

        boolean isLoose(int i) {
            return get(rows, i * WIDTH + LOOSE_PLACE) != 0;
        }

        void setLoose(int i, boolean is) {
            put(rows, i * WIDTH + LOOSE_PLACE, flag(is));
        }

        int looseOnes() {
            int many = 0;
            for (int i = 0; i < size; i++) {
                if (isLoose(i)) many++;
            }
            return many;
        }

        void add(int kind, int a, int b, int c, int d, int e) {
            if (size >= MOST_EVENTS) return;
            int many = Kinds.numbers(kind), start = size * WIDTH;
            fill(rows, start, start + WIDTH, 0);
            put(rows, start, kind);
            if (many > 0) setNumber(size, 0, a);
            if (many > 1) setNumber(size, 1, b);
            if (many > 2) setNumber(size, 2, c);
            if (many > 3) setNumber(size, 3, d);
            if (many > 4) setNumber(size, 4, e);
            size++;
        }

        void addFrom(Tale tale, int i) {
            if (tale == null || !tale.has(i)) return;
            add(tale.kind(i), tale.number(i, 0), tale.number(i, 1), tale.number(i, 2), tale.number(i, 3), tale.number(i, 4));
        }

        void become(Tale tale) {
            if (tale == null) return;
            copy(tale.rows, 0, rows, 0, rows.length);
            size = tale.size;
        }

        void exchange(int i) {
            copy(rows, i * WIDTH, aside, 0, WIDTH);
            copy(rows, (i + 1) * WIDTH, rows, i * WIDTH, WIDTH);
            copy(aside, 0, rows, (i + 1) * WIDTH, WIDTH);
        }

        void shorten() {
            if (size > 0) size--;
        }

        void empty() {
            size = 0;
        }

        /** YOUTH; NONE is THE ROOT's too, and so it is the oldest. */
        int birthOf(int bed) {
            for (int i = 0; i < size; i++) {
                int kind = kind(i);
                if ((kind == Kinds.LAY || kind == Kinds.DYKE) && number(i, 0) == bed) return i;
            }
            return NONE;
        }

        int alikeAhead(Tale tale) {
            if (tale == null) return 0;
            int many = 0;
            while (many < size && many < tale.size && isAlike(tale, many)) many++;
            return many;
        }

        /** Being LOOSE is no part of what befell the land, so it is not looked at. */
        private boolean isAlike(Tale tale, int i) {
            for (int place = 0; place < LOOSE_PLACE; place++) {
                if (get(rows, i * WIDTH + place) != get(tale.rows, i * WIDTH + place)) return false;
            }
            return true;
        }
    }

    /** THE TEXT, and the FAULT of its latest reading. */
    private static final class Text {
        private static final int BLANK = 32, MINUS = 45, ZERO = 48, NINE = 57, SEMICOLON = 59, SMALL_A = 97, SMALL_Z = 122;
        private static final int END = -1, CANNOT_STAND = 1, BAD_NUMBER = 2, TOO_MANY = 3;
        private final int[] bytes = new int[MOST_BYTES];
        private final int[] numbers = new int[Kinds.NUMBERS];
        private int size = 0, place = 0, faultAt = NONE, faultNumber = 0;

        int size() {
            return size;
        }

        int faultAt() {
            return faultAt;
        }

        void add(int value) {
            if (size >= MOST_BYTES) return;
            put(bytes, size, value);
            size++;
        }

        void empty() {
            size = 0;
        }

        /** Tells the clauses to a tale; the number of the FAULT, 0 without one. */
        int parse(Tale tale) {
            place = 0;
            faultAt = NONE;
            faultNumber = 0;
            if (tale == null) return 0;
            tale.empty();
            for (int clause = 0; clause <= MOST_EVENTS; clause++) {
                skipBlanks();
                if (place >= size || !readClause(tale)) break;
            }
            return faultNumber;
        }

        private boolean readClause(Tale tale) {
            int kind = kindHere();
            if (kind == NONE) return refuse(CANNOT_STAND, place);
            if (tale.size() >= MOST_EVENTS) return refuse(TOO_MANY, place);
            place += Kinds.word(kind).length();
            fill(numbers, 0, numbers.length, 0);
            for (int i = 0; i < Kinds.numbers(kind); i++) {
                skipBlanks();
                if (!(Kinds.isAxisPlace(kind, i) ? readAxis(i) : readNumber(kind, i))) return false;
            }
            skipBlanks();
            if (byteAt(place) != SEMICOLON) return refuse(CANNOT_STAND, place);
            place++;
            tale.add(kind, get(numbers, 0), get(numbers, 1), get(numbers, 2), get(numbers, 3), get(numbers, 4));
            return true;
        }

        private boolean readAxis(int i) {
            int axis = isWordHere("x") ? 0 : isWordHere("y") ? 1 : NONE;
            if (axis == NONE) return refuse(CANNOT_STAND, place);
            put(numbers, i, axis);
            place++;
            return true;
        }

        private boolean readNumber(int kind, int i) {
            int start = place;
            boolean below = byteAt(place) == MINUS;
            if (below) place++;
            int figures = 0, value = 0;
            while (place < size && isFigure(byteAt(place))) {
                // what has more figures than two is refused below, so its value may stop here
                if (figures < 2) value = 10 * value + byteAt(place) - ZERO;
                figures++;
                place++;
            }
            if (figures == 0) return refuse(CANNOT_STAND, place);
            if (below) value = -value;
            if (figures > 2 || !Kinds.suits(kind, i, value)) return refuse(BAD_NUMBER, start);
            if (kind == Kinds.DYKE && i == 3 && value < get(numbers, 2)) return refuse(BAD_NUMBER, start);
            put(numbers, i, value);
            return true;
        }

        private boolean refuse(int number, int at) {
            faultNumber = number;
            faultAt = at;
            return false;
        }

        private int kindHere() {
            for (int kind = 0; kind < Kinds.KINDS; kind++) {
                if (isWordHere(Kinds.word(kind))) return kind;
            }
            return NONE;
        }

        /** Whether all letters side by side from here on are just this word. */
        private boolean isWordHere(String word) {
            for (int i = 0; i < word.length(); i++) {
                if (byteAt(place + i) != word.charAt(i)) return false;
            }
            return !isLetter(byteAt(place + word.length()));
        }

        private void skipBlanks() {
            while (place < size && byteAt(place) == BLANK) place++;
        }

        private int byteAt(int i) {
            return isBelow(i, size) ? get(bytes, i) : END;
        }

        private static boolean isLetter(int value) {
            return value >= SMALL_A && value <= SMALL_Z;
        }

        private static boolean isFigure(int value) {
            return value >= ZERO && value <= NINE;
        }
    }

    /** The CELLS of one COLUMN, from the lowest up; new, it is as at first. */
    private static final class Column {
        private final int[] cells = new int[CELLS];

        Column() {
            begin();
        }

        void become(Column column) {
            if (column != null) copy(column.cells, 0, cells, 0, CELLS);
        }

        private void begin() {
            fill(cells, 0, -LOWEST, ROOT);
            fill(cells, -LOWEST, CELLS, NONE);
        }

        /** Becomes what the first so many EVENTS make of the COLUMN with this number. */
        void tell(Tale tale, int many, int number) {
            begin();
            for (int i = 0; i < many; i++) befall(tale, i, number);
        }

        /** Becomes what the EVENTS from one on, ahead of another, make of the COLUMN as it was. */
        void goOnFrom(Column before, Tale tale, int from, int end, int number) {
            become(before);
            for (int i = from; i < end; i++) befall(tale, i, number);
        }

        void befall(Tale tale, int i, int number) {
            if (tale == null) return;
            int x = columnX(number), y = columnY(number);
            int a = tale.number(i, 0), b = tale.number(i, 1), c = tale.number(i, 2), d = tale.number(i, 3);
            int step = stepOf(tale.kind(i) == Kinds.DYKE ? b : a, x, y);
            switch (tale.kind(i)) {
                case Kinds.LAY: lay(a, b); break;
                case Kinds.TILT: move(LOWEST, HIGHEST, slope(a, b, x, y)); break;
                case Kinds.FOLD: move(LOWEST, HIGHEST, foldRise(b, c, d, step)); break;
                case Kinds.BREAK: move(firstBeyond(b - step, d), lastBeyond(b - step, d), c); break;
                case Kinds.CUT: fillHeights(a + slope(b, c, x, y), HIGHEST, NONE); break;
                case Kinds.DYKE: if (step >= c && step <= d) intrude(a, tale.number(i, 4)); break;
                default: break;
            }
        }

        static int stepOf(int axis, int x, int y) {
            return axis == 0 ? x : y;
        }

        private static int slope(int a, int c, int x, int y) {
            return Math.floorDiv(a * x + c * y, 4);
        }

        private static int foldRise(int height, int length, int start, int step) {
            if (length < 1) return 0;
            int r = Math.floorMod(step + start, length);
            return Math.floorDiv(height * Math.min(r, length - r), 2);
        }

        private void lay(int bed, int thickness) {
            int ground = skinHeight();
            fillHeights(ground + 1, ground + thickness, bed);
        }

        /** BEYOND is where lean times the height is at least 4 times the way to the plane: all, none, or one side. */
        private static int firstBeyond(int way, int lean) {
            if (lean > 0) return -Math.floorDiv(-4 * way, lean);
            return lean == 0 && way > 0 ? HIGHEST + 1 : LOWEST;
        }

        private static int lastBeyond(int way, int lean) {
            return lean < 0 ? Math.floorDiv(4 * way, lean) : HIGHEST;
        }

        /** CELLS from low to high get what was so much below them. */
        private void move(int low, int high, int by) {
            int first = Math.max(low, LOWEST), last = Math.min(high, HIGHEST);
            int from = Math.max(first, LOWEST + by), to = Math.min(last, HIGHEST + by);
            // the copy goes ahead: what is filled behind it is still read by it
            copy(cells, from - by - LOWEST, cells, from - LOWEST, to - from + 1);
            fillHeights(first, Math.min(last, LOWEST + by - 1), ROOT);
            fillHeights(Math.max(first, HIGHEST + by + 1), last, NONE);
        }

        private void intrude(int bed, int height) {
            for (int i = 0; i <= height - LOWEST && i < cells.length; i++) {
                if (cells[i] != NONE) cells[i] = bed;
            }
        }

        private void fillHeights(int low, int high, int bed) {
            for (int i = Math.max(0, low - LOWEST); i <= high - LOWEST && i < cells.length; i++) cells[i] = bed;
        }

        int bedAt(int height) {
            return get(cells, height - LOWEST);
        }

        int skinHeight() {
            for (int i = cells.length - 1; i >= 0; i--) {
                if (cells[i] != NONE) return i + LOWEST;
            }
            return NOWHERE;
        }

        int skinBed() {
            int height = skinHeight();
            return height == NOWHERE ? NONE : bedAt(height);
        }

        int topOf(int bed) {
            for (int i = cells.length - 1; i >= 0; i--) {
                if (cells[i] == bed) return i + LOWEST;
            }
            return NOWHERE;
        }

        int cellsOf(int bed) {
            int many = 0;
            for (int i = 0; i < cells.length; i++) {
                if (cells[i] == bed) many++;
            }
            return many;
        }

        boolean isLying(int bed, int under) {
            for (int i = 1; i < cells.length; i++) {
                if (cells[i] == bed && cells[i - 1] == under) return true;
            }
            return false;
        }

        /** Adds the CELLS of each BED to a row in which BED 0 has this place. */
        void countInto(int[] amounts, int place) {
            if (amounts == null) return;
            for (int i = 0; i < cells.length; i++) {
                int own = place + cells[i];
                if (cells[i] != NONE && own >= 0 && own < amounts.length) amounts[own]++;
            }
        }

        int crossings(Tale tale) {
            if (tale == null) return 0;
            int many = 0;
            for (int i = 1; i < cells.length; i++) {
                int bed = cells[i], under = cells[i - 1];
                if (bed != NONE && under != NONE && bed != under && tale.birthOf(bed) < tale.birthOf(under)) many++;
            }
            return many;
        }

        int unlikeCells(Column column) {
            if (column == null) return 0;
            int[] others = column.cells;
            int many = 0;
            for (int i = 0; i < cells.length && i < others.length; i++) {
                if (cells[i] != others[i]) many++;
            }
            return many;
        }

        boolean isLike(Column column) {
            if (column == null) return false;
            int[] others = column.cells;
            for (int i = 0; i < cells.length && i < others.length; i++) {
                if (cells[i] != others[i]) return false;
            }
            return true;
        }
    }

    /** COLUMNS by numbers: a land, or what one COLUMN is in many stories. */
    private static final class Columns {
        private final Column[] all;
        private final Column nowhere = new Column();

        Columns(int many) {
            all = new Column[Math.max(0, many)];
            for (int n = 0; n < all.length; n++) all[n] = new Column();
        }

        Column of(int n) {
            if (n < 0 || n >= all.length || all[n] == null) return nowhere;
            return all[n];
        }

        /** Become what the first so many EVENTS make of a land. */
        void tell(Tale tale, int many) {
            for (int n = 0; n < all.length; n++) of(n).tell(tale, many, n);
        }

        int cellsOf(int bed) {
            int many = 0;
            for (int n = 0; n < all.length; n++) many += of(n).cellsOf(bed);
            return many;
        }

        int crossings(Tale tale) {
            int many = 0;
            for (int n = 0; n < all.length; n++) many += of(n).crossings(tale);
            return many;
        }
    }

    /** The least and the greatest AMOUNT of each BED over all lands of the LOOSE EVENTS. */
    private static final class Ends {
        private static final int MOST_WAYS = 81;
        private final Tale varied = new Tale();
        private final Columns stages = new Columns(MOST_LOOSE + 1);
        private final int[] looseAt = new int[MOST_LOOSE];
        private final int[] amounts = new int[MOST_WAYS * BEDS];
        private final int[] least = new int[BEDS];
        private final int[] greatest = new int[BEDS];
        private int looseOnes = 0, ways = 0;
        private boolean isKnown = false;

        void doubt() {
            isKnown = false;
        }

        int least(int bed) {
            return get(least, bed);
        }

        int greatest(int bed) {
            return get(greatest, bed);
        }

        void know(Tale tale) {
            if (isKnown || tale == null) return;
            varied.become(tale);
            findLoose();
            fill(amounts, 0, amounts.length, 0);
            for (int n = 0; n < COLUMNS; n++) {
                ways = 0;
                stages.of(0).tell(varied, looseIndex(0), n);
                vary(0, n);
            }
            measure();
            isKnown = true;
        }

        private void findLoose() {
            looseOnes = 0;
            for (int i = 0; i < varied.size(); i++) {
                if (!varied.isLoose(i) || looseOnes >= MOST_LOOSE) continue;
                put(looseAt, looseOnes, i);
                looseOnes++;
            }
        }

        private int looseIndex(int level) {
            return level < looseOnes ? get(looseAt, level) : varied.size();
        }

        /** A stage is the COLUMN ahead of a LOOSE EVENT; each of its three numbers makes the next stage, each last one a way. */
        private void vary(int level, int column) {
            if (level >= looseOnes || level >= MOST_LOOSE) {
                stages.of(level).countInto(amounts, ways * BEDS);
                ways++;
                return;
            }
            int i = looseIndex(level), kind = varied.kind(i), place = Kinds.mainPlace(kind), told = varied.number(i, place);
            for (int by = -1; by <= 1; by++) {
                if (!Kinds.suits(kind, place, told + by)) continue;
                varied.setNumber(i, place, told + by);
                stages.of(level + 1).goOnFrom(stages.of(level), varied, i, looseIndex(level + 1), column);
                vary(level + 1, column);
            }
            varied.setNumber(i, place, told);
        }

        private void measure() {
            for (int bed = 0; bed < BEDS; bed++) {
                int low = get(amounts, bed), high = low;
                for (int way = 1; way < ways; way++) {
                    low = Math.min(low, get(amounts, way * BEDS + bed));
                    high = Math.max(high, get(amounts, way * BEDS + bed));
                }
                put(least, bed, low);
                put(greatest, bed, high);
            }
        }
    }

    /** SIGHTS in the order in which they are told. */
    private static final class Sights {
        private static final int SKIN = 0, HOLE = 1, TOP = 2, DIP = 3, OVER = 4, WIDTH = 5, MOST_DIP = 79;
        private final int[] rows = new int[MOST_SIGHTS * WIDTH];
        private int size = 0;

        static boolean allow(int kind, int x, int y, int b, int p, int q) {
            if (kind < SKIN || kind > OVER || !isStep(x) || !isStep(y)) return false;
            if (!isBed(b) && !(b == NONE && kind <= HOLE)) return false;
            switch (kind) {
                case HOLE: return isHeight(p);
                case TOP: return isHeight(p) && isHeight(q) && p <= q;
                case DIP: return isAxis(p) && q >= -MOST_DIP && q <= MOST_DIP && Column.stepOf(p, x, y) < SIDE - 1;
                case OVER: return isBed(p);
                default: return true;
            }
        }

        int size() {
            return size;
        }

        boolean has(int i) {
            return isBelow(i, size);
        }

        void add(int kind, int x, int y, int b, int p, int q) {
            if (size >= MOST_SIGHTS) return;
            int start = size * WIDTH;
            put(rows, start, kind);
            put(rows, start + 1, columnNumber(x, y));
            put(rows, start + 2, b);
            put(rows, start + 3, p);
            put(rows, start + 4, q);
            size++;
        }

        void shorten() {
            if (size > 0) size--;
        }

        private int kind(int i) {
            return get(rows, i * WIDTH);
        }

        int column(int i) {
            return get(rows, i * WIDTH + 1);
        }

        private int bed(int i) {
            return get(rows, i * WIDTH + 2);
        }

        private int p(int i) {
            return get(rows, i * WIDTH + 3);
        }

        private int q(int i) {
            return get(rows, i * WIDTH + 4);
        }

        boolean isDip(int i) {
            return kind(i) == DIP;
        }

        /** The COLUMN that a DIP looks at beside its own. */
        int nextColumn(int i) {
            if (!isDip(i)) return column(i);
            return column(i) + (p(i) == 0 ? 1 : SIDE);
        }

        boolean isMet(int i, Column here, Column ahead) {
            if (here == null || ahead == null) return false;
            int b = bed(i), p = p(i), q = q(i);
            switch (kind(i)) {
                case SKIN: return here.skinBed() == b;
                case HOLE: return here.bedAt(p) == b;
                case TOP: return here.topOf(b) != NOWHERE && here.topOf(b) >= p && here.topOf(b) <= q;
                case DIP: return isDipMet(here.topOf(b), ahead.topOf(b), q);
                default: return here.isLying(b, p);
            }
        }

        private static boolean isDipMet(int here, int ahead, int q) {
            return here != NOWHERE && ahead != NOWHERE && ahead - here == q;
        }

        boolean isMetBy(Columns land, int i) {
            return land != null && isMet(i, land.of(column(i)), land.of(nextColumn(i)));
        }

        int unmetOf(Columns land) {
            int many = 0;
            for (int i = 0; i < size; i++) {
                if (!isMetBy(land, i)) many++;
            }
            return many;
        }

        /** The wanted one of those that are not MET among the first so many. */
        int unmetAmong(Columns land, int known, int wanted) {
            int many = 0;
            for (int i = 0; i < known; i++) {
                if (isMetBy(land, i)) continue;
                if (many == wanted) return i;
                many++;
            }
            return NONE;
        }

        void narrow(Drawing drawing, int bed, int axis, int line, int known) {
            if (drawing == null) return;
            for (int i = 0; i < known; i++) {
                if (kind(i) != TOP || bed(i) != bed) continue;
                int x = columnX(column(i)), y = columnY(column(i));
                if (Column.stepOf(1 - axis, x, y) == line) drawing.narrow(Column.stepOf(axis, x, y), p(i), q(i));
            }
        }
    }

    /** CLAIMS, added up by pairs of BEDS: which row of BEDS breaks least of them. */
    private static final class Ages {
        private static final int FAR = 1000000;
        private final int[] weights = new int[AGED * AGED];
        private final int[] rest = new int[1 << AGED];
        private int claims = 0;

        int claims() {
            return claims;
        }

        void add(int older, int younger, int weight) {
            int i = older * AGED + younger;
            put(weights, i, get(weights, i) + weight);
            claims++;
        }

        private int weight(int older, int younger) {
            return get(weights, older * AGED + younger);
        }

        int brokenBy(Tale tale) {
            if (tale == null) return 0;
            int sum = 0;
            for (int a = 0; a < AGED; a++) {
                for (int b = 0; b < AGED; b++) {
                    if (tale.birthOf(b) != NONE && tale.birthOf(a) > tale.birthOf(b)) sum += weight(a, b);
                }
            }
            return sum;
        }

        int leastQuarrel(int n) {
            return quarrelWith(n, NONE, NONE);
        }

        int bedInRow(int n, int wanted) {
            quarrelWith(n, NONE, NONE);
            int placed = 0, bed = NONE;
            for (int i = 0; i <= wanted && i < n; i++) {
                bed = firstOfBest(n, placed);
                placed |= 1 << bed;
            }
            return bed;
        }

        private int firstOfBest(int n, int placed) {
            for (int bed = 0; bed < n; bed++) {
                if (!isIn(placed, bed) && breach(n, placed, bed) + get(rest, placed | 1 << bed) == get(rest, placed)) return bed;
            }
            return 0;
        }

        int surely(int n, int a, int b) {
            int least = quarrelWith(n, NONE, NONE);
            if (quarrelWith(n, b, a) > least) return 1;
            return quarrelWith(n, a, b) > least ? 2 : 0;
        }

        /** The least QUARREL of all rows in which the one BED is ahead of the other (NONE: of all rows). */
        private int quarrelWith(int n, int ahead, int behind) {
            int all = (1 << n) - 1;
            put(rest, all, 0);
            for (int placed = all - 1; placed >= 0; placed--) {
                int least = FAR;
                for (int bed = 0; bed < n; bed++) {
                    if (isIn(placed, bed) || bed == behind && !isIn(placed, ahead)) continue;
                    least = Math.min(least, breach(n, placed, bed) + get(rest, placed | 1 << bed));
                }
                put(rest, placed, least);
            }
            return get(rest, 0);
        }

        /** What a BED breaks when it comes behind those that are placed. */
        private int breach(int n, int placed, int bed) {
            int sum = 0;
            for (int other = 0; other < n; other++) {
                if (isIn(placed, other)) sum += weight(bed, other);
            }
            return sum;
        }

        private static boolean isIn(int set, int bed) {
            return (set >> bed & 1) != 0;
        }
    }

    /** THE DRAWING within bounds for each STEP; the latest is kept, as calls ask for it height by height. */
    private static final class Drawing {
        private static final int REACH = 20, SPAN = 41, MOST_TURN = 80, FAR = 1000000;
        private final int[] low = new int[SIDE];
        private final int[] high = new int[SIDE];
        private final int[] drawnLow = new int[SIDE];
        private final int[] drawnHigh = new int[SIDE];
        private final int[] rest = new int[SIDE * SPAN * SPAN];
        private final int[] heights = new int[SIDE];
        private int bend = 0;
        private boolean isDrawn = false;

        void open() {
            fill(low, 0, SIDE, -REACH);
            fill(high, 0, SIDE, REACH);
        }

        void narrow(int step, int p, int q) {
            put(low, step, Math.max(p, get(low, step)));
            put(high, step, Math.min(q, get(high, step)));
        }

        boolean isPossible() {
            for (int step = 0; step < SIDE; step++) {
                if (get(low, step) > get(high, step)) return false;
            }
            return true;
        }

        int bend() {
            return bend;
        }

        int height(int step) {
            return get(heights, step);
        }

        void know() {
            if (isDrawn && isAsDrawn()) return;
            for (int step = SIDE - 2; step >= 1; step--) weigh(step);
            begin();
            for (int step = 1; step < SIDE - 1; step++) goOn(step);
            copy(low, 0, drawnLow, 0, SIDE);
            copy(high, 0, drawnHigh, 0, SIDE);
            isDrawn = true;
        }

        private boolean isAsDrawn() {
            for (int step = 0; step < SIDE; step++) {
                if (get(low, step) != get(drawnLow, step) || get(high, step) != get(drawnHigh, step)) return false;
            }
            return true;
        }

        private static int spot(int step, int behind, int own) {
            return (step * SPAN + behind + REACH) * SPAN + own + REACH;
        }

        /** The least BEND from this STEP on, for every height here and behind; STEP 7 has none. */
        private void weigh(int step) {
            for (int behind = get(low, step - 1); behind <= get(high, step - 1); behind++) {
                for (int own = get(low, step); own <= get(high, step); own++) {
                    put(rest, spot(step, behind, own), leastAhead(step, behind, own));
                }
            }
        }

        /** Looks from the straight way on outward, until the turn alone bends as much as what was found. */
        private int leastAhead(int step, int behind, int own) {
            int from = get(low, step + 1), to = get(high, step + 1), straight = 2 * own - behind, least = FAR;
            int nearest = Math.max(0, Math.max(from - straight, straight - to));
            for (int turn = nearest; turn <= MOST_TURN && turn * turn < least; turn++) {
                if (straight - turn >= from && straight - turn <= to) least = Math.min(least, bendFrom(step, behind, own, straight - turn));
                if (straight + turn >= from && straight + turn <= to) least = Math.min(least, bendFrom(step, behind, own, straight + turn));
            }
            return least;
        }

        private int bendFrom(int step, int behind, int own, int ahead) {
            int turn = ahead - 2 * own + behind;
            int later = step + 1 < SIDE - 1 ? get(rest, spot(step + 1, own, ahead)) : 0;
            return turn * turn + later;
        }

        private void begin() {
            bend = FAR;
            for (int first = get(low, 0); first <= get(high, 0); first++) {
                for (int second = get(low, 1); second <= get(high, 1); second++) {
                    int sum = get(rest, spot(1, first, second));
                    if (sum >= bend) continue;
                    bend = sum;
                    put(heights, 0, first);
                    put(heights, 1, second);
                }
            }
        }

        private void goOn(int step) {
            int behind = height(step - 1), own = height(step), wanted = get(rest, spot(step, behind, own));
            for (int ahead = get(high, step + 1); ahead >= get(low, step + 1); ahead--) {
                if (bendFrom(step, behind, own, ahead) == wanted) put(heights, step + 1, ahead);
            }
        }
    }

    /** All STORIES in their order, each going on from one with an EVENT of MAYBE less, and which of them FIT. */
    private static final class Telling {
        private final int[] before = new int[MOST_STORIES];
        private final int[] added = new int[MOST_STORIES];
        private final int[] held = new int[MOST_STORIES];
        private final int[] lengths = new int[MOST_STORIES];
        private final int[] unmet = new int[MOST_STORIES];
        private final int[] fitting = new int[MOST_STORIES];
        private final Columns here = new Columns(MOST_STORIES);
        private final Columns ahead = new Columns(MOST_STORIES);
        private int size = 0, fits = 0, knownBy = NONE, round = 0;
        private boolean isKnown = false;

        void doubt() {
            isKnown = false;
        }

        /** Another number each time that other STORIES may FIT. */
        int round() {
            return round;
        }

        int fits() {
            return fits;
        }

        int fitting(int i) {
            return get(fitting, i);
        }

        int length(int story) {
            return get(lengths, story);
        }

        /** The j-th of MAYBE in a story; NONE: it has none such. */
        int part(int story, int j) {
            if (!isBelow(j, length(story))) return NONE;
            int from = story;
            for (int i = length(story) - 1; i > j; i--) from = get(before, from);
            return get(added, from);
        }

        /** Finds out which STORIES FIT by the first so many SIGHTS. */
        void know(Columns land, Tale mights, Sights sights, int known) {
            if (land == null || mights == null || sights == null) return;
            if (isKnown && knownBy == known) return;
            order(mights.size());
            fill(unmet, 0, MOST_STORIES, 0);
            for (int i = 0; i < known; i++) {
                tellColumn(here, land, mights, sights.column(i));
                if (sights.isDip(i)) tellColumn(ahead, land, mights, sights.nextColumn(i));
                hold(sights, i);
            }
            gather();
            isKnown = true;
            knownBy = known;
            round++;
        }

        /** Going on from the STORIES in their order makes those with one EVENT more in their order, too. */
        private void order(int mights) {
            size = 0;
            append(0, NONE, 0, 0);
            for (int s = 0; s < size && s < MOST_STORIES; s++) {
                for (int i = 0; i < mights; i++) {
                    int set = get(held, s);
                    if ((set >> i & 1) == 0) append(s, i, set | 1 << i, length(s) + 1);
                }
            }
        }

        private void append(int from, int might, int set, int length) {
            if (size >= MOST_STORIES) return;
            put(before, size, from);
            put(added, size, might);
            put(held, size, set);
            put(lengths, size, length);
            size++;
        }

        private void tellColumn(Columns rows, Columns land, Tale mights, int number) {
            rows.of(0).become(land.of(number));
            for (int s = 1; s < size; s++) {
                rows.of(s).goOnFrom(rows.of(get(before, s)), mights, get(added, s), get(added, s) + 1, number);
            }
        }

        private void hold(Sights sights, int i) {
            for (int s = 0; s < size; s++) {
                if (!sights.isMet(i, here.of(s), ahead.of(s))) put(unmet, s, get(unmet, s) + 1);
            }
        }

        private void gather() {
            fits = 0;
            for (int s = 0; s < size; s++) {
                if (get(unmet, s) != 0) continue;
                put(fitting, fits, s);
                fits++;
            }
        }

        /** Makes what one COLUMN of the land is in each of the STORIES. */
        void look(Columns land, Tale mights, int number) {
            if (land != null) tellColumn(here, land, mights, number);
        }

        Column looked(int story) {
            return here.of(story);
        }
    }

    /** THE NEXT HOLE of a telling. */
    private static final class NextHole {
        private final int[] faces = new int[MOST_STORIES];
        private final int[] sizes = new int[MOST_STORIES];
        private int sets = 0, column = NONE, unlike = 0, greatest = 0, knownRound = NONE;

        int column() {
            return column;
        }

        int unlike() {
            return unlike;
        }

        int greatest() {
            return greatest;
        }

        void know(Telling telling, Columns land, Tale mights) {
            if (telling == null || telling.round() == knownRound) return;
            column = NONE;
            unlike = 0;
            greatest = 0;
            for (int n = 0; n < COLUMNS; n++) {
                telling.look(land, mights, n);
                divide(telling);
                int most = mostOfSets();
                if (sets < unlike || sets == unlike && most >= greatest) continue;
                column = n;
                unlike = sets;
                greatest = most;
            }
            knownRound = telling.round();
        }

        /** Parts the STORIES that FIT into sets with like contents, each shown by its first story. */
        private void divide(Telling telling) {
            sets = 0;
            for (int i = 0; i < telling.fits(); i++) {
                int story = telling.fitting(i), set = setOf(telling, story);
                if (set == sets) {
                    put(faces, set, story);
                    put(sizes, set, 0);
                    sets++;
                }
                put(sizes, set, get(sizes, set) + 1);
            }
        }

        private int setOf(Telling telling, int story) {
            int set = 0;
            while (set < sets && !telling.looked(get(faces, set)).isLike(telling.looked(story))) set++;
            return set;
        }

        private int mostOfSets() {
            int most = 0;
            for (int set = 0; set < sets; set++) most = Math.max(most, get(sizes, set));
            return most;
        }
    }
}
