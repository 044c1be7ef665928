/**
 * A slope behind the Hall, by which it is settled what is whose: a slide takes
 * for its side all cells in which it was. README.md says how it is used.
 */
public final class EstateSlopes {
    public static final int BAD = -1, NO = -2, FULL = -3, NONE = -4;

    private static final int SNOW = 0, ICE = 1, THAW = 2, ROAD = 3, THINGS = 4;
    private static final int SIDES = 4, NOBODY = 4;
    private static final int SEA = 99;
    private static final int LEAST_COLUMNS = 2, MOST_COLUMNS = 6;
    private static final int LEAST_ROWS = 2, MOST_ROWS = 8;
    private static final int MOST_CELLS = MOST_COLUMNS * MOST_ROWS;
    private static final int MOST_WEIGHT = 20;
    private static final int HEEL_ROWS = 8, TO_THE_RIGHT = 10;
    private static final int MOST_LETTERS = 200, FIRST_LETTER = 32, LAST_LETTER = 126;
    private static final int MOST_UNDONE = 8, MOST_KEPT = 2, MOST_SEEN = 6;
    private static final int TENTHS = 10;
    private static final int LAST_WINTER = 9999, MOST_WINTER_THINGS = 60;
    private static final int DIRECTIONS = 4;
    private static final String FIRST_TEXT =
            "r0010;r0103;r1002;r0310;r2001;r0000;o0,0;o5,0;o13,1;o23,2;o9,1;";

    private final Text text = new Text();
    private final Estate now = new Estate();
    /** Scratch of one call: what a text tells, or how a winter leaves things. */
    private final Estate draft = new Estate();
    private final Shelf past = new Shelf(MOST_UNDONE);
    private final Shelf kept = new Shelf(MOST_KEPT);
    private final Sights sights = new Sights();
    private final Ride ride = new Ride();
    private final Search search = new Search();
    private final Ground ground = new Ground();
    private final Odds odds = new Odds();

    public EstateSlopes() {
        for (int i = 0; i < FIRST_TEXT.length(); i++) {
            text.append(FIRST_TEXT.charAt(i));
        }
        text.readInto(draft);
        now.copyFrom(draft);
        text.clear();
    }

    // ---- slopes

    public int write(int letter) {
        if (letter < FIRST_LETTER || letter > LAST_LETTER) {
            return BAD;
        }
        return text.append(letter) ? text.length : FULL;
    }

    public int wipe() {
        int was = text.length;
        text.clear();
        return was;
    }

    public int fault() {
        return text.readInto(draft);
    }

    public int lay() {
        if (text.readInto(draft) != NONE || draft.rows < LEAST_ROWS) {
            return NO;
        }
        // The document lets only undo and back take slides from the count.
        draft.slides = now.slides;
        now.copyFrom(draft);
        sights.clear();
        past.clear();
        kept.clear();
        return now.cells();
    }

    public int cell(int c, int what) {
        if (!now.hasCell(c) || !isFlag(what)) {
            return BAD;
        }
        return what == 0 ? now.thingOn(c) : sideOrNone(now.ownerOf(c));
    }

    public int stops(int x, int w, int h) {
        if (!isRide(x, w, h)) {
            return BAD;
        }
        ride.run(now, x, w, h);
        return ride.end;
    }

    public int track(int x, int w, int h, int k, int what) {
        if (!isRide(x, w, h) || !now.hasRow(k) || !isFlag(what)) {
            return BAD;
        }
        ride.run(now, x, w, h);
        if (!ride.cameTo(k)) {
            return NONE;
        }
        return what == 0 ? ride.cellIn(k) : ride.speedBehind(k);
    }

    public int holds(int f) {
        return isSide(f) ? now.cellsOf(f) : BAD;
    }

    // ---- acts

    public int slide(int f, int x, int w, int h) {
        if (!isSide(f) || !isRide(x, w, h)) {
            return BAD;
        }
        past.push(now);
        ride.run(now, x, w, h);
        ride.takeFor(now, f);
        now.slides++;
        return ride.end;
    }

    public int dig(int c, int k) {
        if (!now.hasCell(c) || !isThing(k)) {
            return BAD;
        }
        int was = now.thingOn(c);
        if (was == k) {
            return NO;
        }
        past.push(now);
        now.putThing(c, k);
        return was;
    }

    public int give(int c, int f) {
        if (!now.hasCell(c) || !(isSide(f) || f == NOBODY)) {
            return BAD;
        }
        int was = now.ownerOf(c);
        if (was == f) {
            return NO;
        }
        past.push(now);
        now.putOwner(c, f);
        return sideOrNone(was);
    }

    public int frost(int r) {
        if (!now.hasRow(r)) {
            return BAD;
        }
        int many = now.freezable(r);
        if (many == 0) {
            return NO;
        }
        past.push(now);
        now.freeze(r);
        return many;
    }

    public int undo() {
        return past.popInto(now) ? past.size : NO;
    }

    // ---- what is best

    public int aim(int c) {
        if (!now.hasCell(c)) {
            return BAD;
        }
        return search.firstThatStops(now, ride, c);
    }

    public int gain(int f, int what) {
        if (!isSide(f) || !isFlag(what)) {
            return BAD;
        }
        search.findMostTaken(now, ride, f, false);
        return what == 0 ? search.code : now.cellsOf(f) + search.taken;
    }

    public int spoil(int f, int g, int what) {
        if (!isSide(f) || !isSide(g) || f == g || !isFlag(what)) {
            return BAD;
        }
        search.findMostTaken(now, ride, g, true);
        return what == 0 ? search.code : now.cellsOf(g) - search.taken;
    }

    public int cure(int x, int w, int h, int c) {
        if (!isRide(x, w, h) || !now.hasCell(c)) {
            return BAD;
        }
        ride.run(now, x, w, h);
        if (ride.end == c) {
            return NONE;
        }
        for (int dug = 0; dug < now.cells(); dug++) {
            int k = firstCureIn(dug, x, w, h, c);
            if (k != NONE) {
                return 10 * dug + k;
            }
        }
        return NONE;
    }

    public int pieces(int f) {
        return isSide(f) ? ground.piecesOf(now, f) : BAD;
    }

    public int bridge(int f, int a, int b) {
        if (!isSide(f) || !now.hasCell(a) || !now.hasCell(b)) {
            return BAD;
        }
        if (now.ownerOf(a) != f || now.ownerOf(b) != f) {
            return NO;
        }
        return ground.leastBetween(now, f, a, b);
    }

    // ---- what was seen

    public int seen(int x, int w, int c) {
        if (!isRide(x, w, 0) || !isEnd(c)) {
            return BAD;
        }
        return sights.add(x, w, c) ? sights.size : FULL;
    }

    public int forget() {
        int were = sights.size;
        sights.clear();
        return were;
    }

    public int lies(int c) {
        if (!now.hasCell(c)) {
            return BAD;
        }
        int was = now.thingOn(c);
        int bits = 0;
        for (int k = 0; k < THINGS; k++) {
            now.putThing(c, k);
            if (sights.allHold(now, ride)) {
                bits |= 1 << k;
            }
        }
        now.putThing(c, was);
        return bits;
    }

    public int heavy(int x, int c, int what) {
        if (!now.hasColumn(x) || !isEnd(c) || !isFlag(what)) {
            return BAD;
        }
        int many = 0;
        int least = NONE;
        for (int w = MOST_WEIGHT; w >= 1; w--) {
            ride.run(now, x, w, 0);
            if (ride.end == c) {
                many++;
                least = w;
            }
        }
        return what == 0 ? many : least;
    }

    // ---- chances, winters

    public int likely(int x, int w, int c, int t, int part) {
        boolean told = isRide(x, w, 0) && isEnd(c) && isFlag(part);
        if (!told || t < 0 || t > TENTHS) {
            return BAD;
        }
        odds.find(now, x, w, c, t);
        return part == 0 ? odds.above : odds.below;
    }

    public int winter(int z, int n, int what) {
        if (z < 0 || z > LAST_WINTER || n < 1 || n > MOST_WINTER_THINGS) {
            return BAD;
        }
        if (what < 0 || what > 2) {
            return BAD;
        }
        draft.copyFrom(now);
        int sea = 0;
        for (int i = 0; i < n; i++) {
            if (winterThing(drawOf(z, i))) {
                sea++;
            }
        }
        switch (what) {
            case 0:
                return draft.cellsOfSides();
            case 1:
                return draft.cellsWith(ICE);
            default:
                return sea;
        }
    }

    // ---- kept

    public int keep() {
        if (kept.size >= MOST_KEPT) {
            return FULL;
        }
        kept.push(now);
        return kept.size;
    }

    public int back() {
        if (!kept.popInto(now)) {
            return NO;
        }
        past.clear();
        return kept.size;
    }

    public int count(int what) {
        switch (what) {
            case 0:
                return now.cells();
            case 1:
                return now.columns;
            case 2:
                return now.rows;
            case 3:
                return now.cellsOfSides();
            case 4:
                return now.cellsWith(ICE);
            case 5:
                return now.slides;
            case 6:
                return sights.size;
            case 7:
                return past.size;
            case 8:
                return kept.size;
            case 9:
                return text.length;
            default:
                return BAD;
        }
    }

    // ---- what the calls share

    private static boolean isFlag(int what) {
        return what == 0 || what == 1;
    }

    private static boolean isSide(int f) {
        return f >= 0 && f < SIDES;
    }

    private static boolean isThing(int k) {
        return k >= 0 && k < THINGS;
    }

    private static boolean isHeels(int h) {
        return h >= 0 && h <= HEEL_ROWS
                || h > TO_THE_RIGHT && h <= TO_THE_RIGHT + HEEL_ROWS;
    }

    private boolean isRide(int x, int w, int h) {
        return now.hasColumn(x) && w >= 1 && w <= MOST_WEIGHT && isHeels(h);
    }

    private boolean isEnd(int c) {
        return c == SEA || now.hasCell(c);
    }

    private static int sideOrNone(int owner) {
        return owner == NOBODY ? NONE : owner;
    }

    /** The first other thing on a cell by which the slide would stop in c, or NONE. */
    private int firstCureIn(int dug, int x, int w, int h, int c) {
        int was = now.thingOn(dug);
        int found = NONE;
        for (int k = 0; k < THINGS && found == NONE; k++) {
            if (k != was) {
                now.putThing(dug, k);
                ride.run(now, x, w, h);
                if (ride.end == c) {
                    found = k;
                }
            }
        }
        now.putThing(dug, was);
        return found;
    }

    private static int drawOf(int z, int i) {
        // The square goes far beyond an int.
        long x = 7919L * z + 6151L * i + 1L;
        return (int) (x * x % 65521L / 2L);
    }

    /** One thing of a winter, done to the draft: whether a slide came to the sea by it. */
    private boolean winterThing(int draw) {
        int cells = draft.cells();
        int columns = draft.columns;
        if (cells <= 0 || columns <= 0) {
            return false;
        }
        int c = draw % cells;
        int kind = draw / 64 % 4;
        if (kind == 0) {
            draft.putThing(c, draw / 256 % THINGS);
            return false;
        }
        if (kind == 1) {
            draft.freeze(c / columns);
            return false;
        }
        ride.run(draft, c % columns, draw / 256 % MOST_WEIGHT + 1, 0);
        ride.takeFor(draft, draw / 16 % SIDES);
        return ride.end == SEA;
    }

    /** The letters written so far, and the reading of them as items. */
    private static final class Text {
        final int[] letters = new int[MOST_LETTERS];
        int length = 0;

        boolean append(int letter) {
            if (length < 0 || length >= letters.length) {
                return false;
            }
            letters[length] = letter;
            length++;
            return true;
        }

        void clear() {
            length = 0;
        }

        /** Behind the last letter stands 0, which no item takes for a letter of its own. */
        int letterAt(int place) {
            if (place < 0 || place >= length || place >= letters.length) {
                return 0;
            }
            return letters[place];
        }

        /** Reads the items into an estate: the place of the first one that is not so, or NONE. */
        int readInto(Estate estate) {
            estate.clear();
            int at = 0;
            for (int items = 0; items < MOST_LETTERS && at < length; items++) {
                int next = readItem(at, estate);
                if (next == NONE) {
                    return at;
                }
                at = next;
            }
            return NONE;
        }

        /** The place behind the item, or NONE if it is not so. */
        private int readItem(int at, Estate estate) {
            switch (letterAt(at)) {
                case 'r':
                    return readRow(at + 1, estate);
                case 'o':
                    return readOwner(at + 1, estate);
                default:
                    return NONE;
            }
        }

        private int readRow(int at, Estate estate) {
            int many = 0;
            while (many <= MOST_COLUMNS && isThing(letterAt(at + many) - '0')) {
                many++;
            }
            if (letterAt(at + many) != ';' || !estate.addRow(many)) {
                return NONE;
            }
            int first = estate.cells() - many;
            for (int i = 0; i < many; i++) {
                estate.putThing(first + i, letterAt(at + i) - '0');
            }
            return at + many + 1;
        }

        private int readOwner(int at, Estate estate) {
            int comma = behindNumber(at);
            int end = behindNumber(comma + 1);
            if (comma == at || end == comma + 1) {
                return NONE;
            }
            if (letterAt(comma) != ',' || letterAt(end) != ';') {
                return NONE;
            }
            int c = numberIn(at, comma);
            int f = numberIn(comma + 1, end);
            if (!estate.hasCell(c) || !isSide(f)) {
                return NONE;
            }
            estate.putOwner(c, f);
            return end + 1;
        }

        /** The place behind the one or two figures that stand here; the same place if none does. */
        private int behindNumber(int at) {
            if (!isFigure(letterAt(at))) {
                return at;
            }
            return isFigure(letterAt(at + 1)) ? at + 2 : at + 1;
        }

        private int numberIn(int from, int to) {
            int number = 0;
            for (int i = from; i < to; i++) {
                number = 10 * number + letterAt(i) - '0';
            }
            return number;
        }

        private static boolean isFigure(int letter) {
            return letter >= '0' && letter <= '9';
        }
    }

    /** What lies on the cells, whose they are, and how many slides there were. */
    private static final class Estate {
        final int[] things = new int[MOST_CELLS];
        final int[] owners = new int[MOST_CELLS];
        int columns = 0;
        int rows = 0;
        int slides = 0;

        void clear() {
            columns = 0;
            rows = 0;
            slides = 0;
        }

        void copyFrom(Estate other) {
            for (int c = 0; c < MOST_CELLS; c++) {
                things[c] = other.things[c];
                owners[c] = other.owners[c];
            }
            columns = other.columns;
            rows = other.rows;
            slides = other.slides;
        }

        int cells() {
            return rows * columns;
        }

        boolean hasCell(int c) {
            return c >= 0 && c < rows * columns && c < MOST_CELLS;
        }

        boolean hasColumn(int x) {
            return x >= 0 && x < columns;
        }

        boolean hasRow(int r) {
            return r >= 0 && r < rows;
        }

        /** A row of snow that is nobody's, below the others; false if it does not fit. */
        boolean addRow(int many) {
            if (many < LEAST_COLUMNS || many > MOST_COLUMNS || rows >= MOST_ROWS) {
                return false;
            }
            if (rows > 0 && many != columns) {
                return false;
            }
            columns = many;
            rows++;
            for (int c = cells() - many; c < cells(); c++) {
                putThing(c, SNOW);
                putOwner(c, NOBODY);
            }
            return true;
        }

        int thingOn(int c) {
            return hasCell(c) ? things[c] : SNOW;
        }

        int ownerOf(int c) {
            return hasCell(c) ? owners[c] : NOBODY;
        }

        void putThing(int c, int k) {
            if (hasCell(c)) {
                things[c] = k;
            }
        }

        void putOwner(int c, int f) {
            if (hasCell(c)) {
                owners[c] = f;
            }
        }

        int cellsOf(int owner) {
            int many = 0;
            for (int c = 0; c < cells(); c++) {
                if (ownerOf(c) == owner) {
                    many++;
                }
            }
            return many;
        }

        int cellsOfSides() {
            return cells() - cellsOf(NOBODY);
        }

        int cellsWith(int k) {
            int many = 0;
            for (int c = 0; c < cells(); c++) {
                if (thingOn(c) == k) {
                    many++;
                }
            }
            return many;
        }

        /** In how many cells of a row a frost would make something else lie. */
        int freezable(int r) {
            int many = 0;
            for (int c = r * columns; c < (r + 1) * columns; c++) {
                if (frozen(thingOn(c)) != thingOn(c)) {
                    many++;
                }
            }
            return many;
        }

        void freeze(int r) {
            for (int c = r * columns; c < (r + 1) * columns; c++) {
                putThing(c, frozen(thingOn(c)));
            }
        }

        private static int frozen(int k) {
            switch (k) {
                case SNOW:
                    return ICE;
                case THAW:
                    return SNOW;
                default:
                    return k;
            }
        }

        /** The cell beside another one to the left, right, above or below, or NONE. */
        int beside(int c, int direction) {
            if (!hasCell(c) || columns <= 0) {
                return NONE;
            }
            int x = c % columns;
            int r = c / columns;
            switch (direction) {
                case 0:
                    return x > 0 ? c - 1 : NONE;
                case 1:
                    return x + 1 < columns ? c + 1 : NONE;
                case 2:
                    return r > 0 ? c - columns : NONE;
                default:
                    return r + 1 < rows ? c + columns : NONE;
            }
        }
    }

    /** Estates laid by, the last one the first to come back; a full shelf loses its oldest. */
    private static final class Shelf {
        final Estate[] places;
        int next = 0;
        int size = 0;

        Shelf(int most) {
            places = new Estate[Math.max(most, 1)];
            for (int i = 0; i < places.length; i++) {
                places[i] = new Estate();
            }
        }

        void clear() {
            size = 0;
        }

        void push(Estate estate) {
            if (next < 0 || next >= places.length) {
                return;
            }
            Estate place = places[next];
            if (place == null) {
                return;
            }
            place.copyFrom(estate);
            next = next + 1 < places.length ? next + 1 : 0;
            size = Math.min(size + 1, places.length);
        }

        boolean popInto(Estate estate) {
            int last = next > 0 ? next - 1 : places.length - 1;
            if (size <= 0 || last < 0 || last >= places.length) {
                return false;
            }
            Estate place = places[last];
            if (place == null) {
                return false;
            }
            estate.copyFrom(place);
            next = last;
            size--;
            return true;
        }
    }

    /** What one slide does: the cell in each row it comes to, its speed there, its end. */
    private static final class Ride {
        final int[] cells = new int[MOST_ROWS];
        final int[] speeds = new int[MOST_ROWS];
        int length = 0;
        int end = SEA;

        void run(Estate estate, int column, int weight, int heels) {
            boolean right = heels > TO_THE_RIGHT;
            int heelRow = (right ? heels - TO_THE_RIGHT : heels) - 1;
            int x = column;
            int speed = weight;
            length = 0;
            end = SEA;
            for (int r = 0; r < estate.rows && r < MOST_ROWS; r++) {
                int c = r * estate.columns + x;
                speed = speedOver(estate.thingOn(c), speed);
                if (speed > 0 && r == heelRow) {
                    speed--;
                    int beside = estate.hasColumn(right ? x + 1 : x - 1) ? 1 : 0;
                    x = right ? x + beside : x - beside;
                }
                cells[r] = c;
                speeds[r] = speed;
                length = r + 1;
                if (speed == 0) {
                    end = c;
                    return;
                }
            }
        }

        static int speedOver(int thing, int speed) {
            switch (thing) {
                case SNOW:
                    return Math.max(speed - 2, 0);
                case ICE:
                    return Math.min(speed + 1, MOST_WEIGHT);
                case THAW:
                    return Math.max(speed - 5, 0);
                case ROAD:
                    return Math.max(speed - 2, 0) / 2;
                default:
                    return 0;
            }
        }

        boolean cameTo(int r) {
            return r >= 0 && r < length && r < MOST_ROWS;
        }

        int cellIn(int r) {
            return cameTo(r) ? cells[r] : NONE;
        }

        int speedBehind(int r) {
            return cameTo(r) ? speeds[r] : NONE;
        }

        void takeFor(Estate estate, int f) {
            for (int r = 0; r < length; r++) {
                estate.putOwner(cellIn(r), f);
            }
        }

        /** How many of its cells are a side's, or are not. */
        int cellsThatAre(Estate estate, int f, boolean its) {
            int many = 0;
            for (int r = 0; r < length; r++) {
                if ((estate.ownerOf(cellIn(r)) == f) == its) {
                    many++;
                }
            }
            return many;
        }
    }

    /** Goes through all slides by column, then weight, then heels. */
    private static final class Search {
        int code = NONE;
        int taken = 0;

        int firstThatStops(Estate estate, Ride ride, int c) {
            for (int x = 0; x < estate.columns; x++) {
                for (int w = 1; w <= MOST_WEIGHT; w++) {
                    ride.run(estate, x, w, 0);
                    int reach = ride.length;
                    for (int i = 0; i <= 2 * reach; i++) {
                        int h = heelsAt(i, reach);
                        ride.run(estate, x, w, h);
                        if (ride.end == c) {
                            return codeOf(x, w, h);
                        }
                    }
                }
            }
            return NONE;
        }

        /** The first slide with most cells that are (or are not) a side's, and how many these are. */
        void findMostTaken(Estate estate, Ride ride, int f, boolean its) {
            code = NONE;
            taken = NONE;
            for (int x = 0; x < estate.columns; x++) {
                for (int w = 1; w <= MOST_WEIGHT; w++) {
                    ride.run(estate, x, w, 0);
                    int reach = ride.length;
                    for (int i = 0; i <= 2 * reach; i++) {
                        int h = heelsAt(i, reach);
                        ride.run(estate, x, w, h);
                        int many = ride.cellsThatAre(estate, f, its);
                        if (many > taken) {
                            taken = many;
                            code = codeOf(x, w, h);
                        }
                    }
                }
            }
        }

        /** Heels in rows out of reach are left out: they are as none, which comes first. */
        private static int heelsAt(int i, int reach) {
            return i <= reach ? i : i - reach + TO_THE_RIGHT;
        }

        private static int codeOf(int x, int w, int h) {
            return 10000 * x + 100 * w + h;
        }
    }

    /** Which cells of a side hang together, and what lies between them. */
    private static final class Ground {
        final int[] marks = new int[MOST_CELLS];
        final int[] waiting = new int[MOST_CELLS];
        int waits = 0;

        int piecesOf(Estate estate, int f) {
            fillMarks(0);
            int many = 0;
            for (int c = 0; c < estate.cells(); c++) {
                if (estate.ownerOf(c) == f && markOf(c) == 0) {
                    many++;
                    markPiece(estate, f, c);
                }
            }
            return many;
        }

        private void markPiece(Estate estate, int f, int start) {
            waits = 0;
            await(start);
            // Each cell waits once at most, as it is marked when it begins to.
            for (int turn = 0; turn < MOST_CELLS && waits > 0; turn++) {
                int c = nextWaiting();
                for (int d = 0; d < DIRECTIONS; d++) {
                    int other = estate.beside(c, d);
                    if (other != NONE && estate.ownerOf(other) == f && markOf(other) == 0) {
                        await(other);
                    }
                }
            }
        }

        private void await(int c) {
            if (waits < 0 || waits >= MOST_CELLS) {
                return;
            }
            putMark(c, 1);
            waiting[waits] = c;
            waits++;
        }

        private int nextWaiting() {
            if (waits < 1 || waits > MOST_CELLS) {
                return NONE;
            }
            waits--;
            return waiting[waits];
        }

        /** A mark here is the fewest cells, not the side's, on a way from a to that cell. */
        int leastBetween(Estate estate, int f, int a, int b) {
            fillMarks(MOST_CELLS);
            putMark(a, 0);
            boolean changed = true;
            // A way that is least has no cell twice, so as many turns as cells are enough.
            for (int turn = 0; turn < MOST_CELLS && changed; turn++) {
                changed = false;
                for (int c = 0; c < estate.cells(); c++) {
                    if (lowerMark(estate, f, c)) {
                        changed = true;
                    }
                }
            }
            return markOf(b);
        }

        private boolean lowerMark(Estate estate, int f, int c) {
            int own = estate.ownerOf(c) == f ? 0 : 1;
            boolean lower = false;
            for (int d = 0; d < DIRECTIONS; d++) {
                int other = estate.beside(c, d);
                if (other != NONE && markOf(other) + own < markOf(c)) {
                    putMark(c, markOf(other) + own);
                    lower = true;
                }
            }
            return lower;
        }

        private void fillMarks(int mark) {
            for (int c = 0; c < MOST_CELLS; c++) {
                marks[c] = mark;
            }
        }

        private int markOf(int c) {
            return c >= 0 && c < MOST_CELLS ? marks[c] : MOST_CELLS;
        }

        private void putMark(int c, int mark) {
            if (c >= 0 && c < MOST_CELLS) {
                marks[c] = mark;
            }
        }
    }

    /** Where slides without heels were seen to stop. */
    private static final class Sights {
        final int[] columns = new int[MOST_SEEN];
        final int[] weights = new int[MOST_SEEN];
        final int[] ends = new int[MOST_SEEN];
        int size = 0;

        void clear() {
            size = 0;
        }

        boolean add(int x, int w, int c) {
            if (size < 0 || size >= MOST_SEEN) {
                return false;
            }
            columns[size] = x;
            weights[size] = w;
            ends[size] = c;
            size++;
            return true;
        }

        boolean allHold(Estate estate, Ride ride) {
            for (int i = 0; i < size && i < MOST_SEEN; i++) {
                ride.run(estate, columns[i], weights[i], 0);
                if (ride.end != ends[i]) {
                    return false;
                }
            }
            return true;
        }
    }

    /** How likely a slide stops in a cell when each cell it comes to may freeze. */
    private static final class Odds {
        /** For each speed the ways, of ten to the rows behind it, to come on with it. */
        final int[] ways = new int[MOST_WEIGHT + 1];
        final int[] nextWays = new int[MOST_WEIGHT + 1];
        int above = 0;
        int below = 1;

        void find(Estate estate, int x, int w, int end, int t) {
            start(w);
            int all = 1;
            for (int r = 0; r < estate.rows && r < MOST_ROWS; r++) {
                int c = r * estate.columns + x;
                passRow(estate.thingOn(c), t);
                all *= TENTHS;
                if (c == end) {
                    setLowest(waysOf(0), all);
                    return;
                }
                putWays(0, 0);
            }
            setLowest(end == SEA ? allWays() : 0, all);
        }

        private void start(int w) {
            for (int speed = 0; speed <= MOST_WEIGHT; speed++) {
                ways[speed] = speed == w ? 1 : 0;
            }
        }

        private void passRow(int thing, int t) {
            for (int speed = 0; speed <= MOST_WEIGHT; speed++) {
                nextWays[speed] = 0;
            }
            for (int speed = 1; speed <= MOST_WEIGHT; speed++) {
                addNext(Ride.speedOver(ICE, speed), t * ways[speed]);
                addNext(Ride.speedOver(thing, speed), (TENTHS - t) * ways[speed]);
            }
            for (int speed = 0; speed <= MOST_WEIGHT; speed++) {
                ways[speed] = nextWays[speed];
            }
        }

        private void addNext(int speed, int many) {
            if (speed >= 0 && speed <= MOST_WEIGHT) {
                nextWays[speed] += many;
            }
        }

        private int waysOf(int speed) {
            return speed >= 0 && speed <= MOST_WEIGHT ? ways[speed] : 0;
        }

        private void putWays(int speed, int many) {
            if (speed >= 0 && speed <= MOST_WEIGHT) {
                ways[speed] = many;
            }
        }

        private int allWays() {
            int sum = 0;
            for (int speed = 0; speed <= MOST_WEIGHT; speed++) {
                sum += waysOf(speed);
            }
            return sum;
        }

        private void setLowest(int part, int whole) {
            int common = commonDivisor(part, whole);
            if (common <= 0) {
                return;
            }
            above = part / common;
            below = whole / common;
        }

        private static int commonDivisor(int a, int b) {
            int high = a;
            int low = b;
            // Numbers below a thousand million need some forty turns.
            for (int turn = 0; turn < 64 && low != 0; turn++) {
                int rest = high % low;
                high = low;
                low = rest;
            }
            return high;
        }
    }
}
