/**
 * A land of places and roads with nicks of the goods that were carried along them, and carriers
 * who take no good along a road twice. The words in capitals are those of the document.
 */
public final class OncePerRoad {
    private static final int NO_SUCH = -1;
    private static final int NO_ROOM = -2;
    private static final int CANNOT_BE = -3;
    private static final int NONE = -4;
    private static final int NOTHING_HELD = -11;
    private static final int OTHER_KIND = -12;
    private static final int NOT_THERE = -13;
    private static final int SIZE_BELOW_ZERO = -14;
    private static final int NO_FAILURE = -15;

    private static final int GOODS = 4;
    private static final int ALL_GOODS = 15;
    private static final int MOST_PLACES = 6;
    private static final int MOST_ROADS = 9;
    private static final int MOST_MILES = 9;
    private static final int MOST_CARRIERS = 6;
    private static final int KINDS = 8;
    private static final int MOST_FIGURE = 9;
    private static final int SHELVES = 8;
    private static final int MOST_ELEMENTS = 100;
    private static final int MOST_CARRIAGES = 5;
    private static final int MOST_OFTEN = 9;
    private static final int MOST_SEEDED = 30;
    private static final int NO_WAY_ANY_MORE = 99;
    private static final int NO_ROAD = -1;

    private static final int BYTES = 0;
    private static final int SHORTS = 1;
    private static final int INTS = 2;

    private static final int NOTHING = 0;
    private static final int A_CARRIER = 1;
    private static final int A_ROW = 2;

    private static final int LETTER_DUE = -1;

    private final Land now;
    /** Where a call tries what must not touch the land that is. */
    private final Land mind;
    private final Land pictured;
    private boolean isPictured;
    private final Way trip;
    private final int[] holds;
    private final Carrier[] kept;
    private final Row[] rows;
    private int leastMilesOfOrders;

    public OncePerRoad() {
        now = new Land();
        mind = new Land();
        pictured = new Land();
        trip = new Way();
        holds = new int[SHELVES];
        kept = new Carrier[SHELVES];
        rows = new Row[SHELVES];
        for (int d = 0; d < SHELVES; d++) {
            rows[d] = new Row();
        }
    }

    // ---- lands

    public int land(int d) {
        int refusal = rowRefusal(d, true);
        if (refusal != 0) {
            return refusal;
        }
        Row text = rows[d];
        int broken = firstBrokenByte(text);
        if (broken >= 0) {
            return -1000 - broken;
        }
        mind.become(now);
        int statements = 0;
        for (int i = 0; i < text.size; i += digitsBehind(text.cell(i)) + 2) {
            if (!applyStatement(text, i)) {
                return -2000 - i;
            }
            statements++;
        }
        now.become(mind);
        return statements;
    }

    public int road(int road, int what) {
        if (!now.hasRoad(road)) {
            return NO_SUCH;
        }
        switch (what) {
            case 0:
                return now.from[road];
            case 1:
                return now.to[road];
            case 2:
                return now.miles[road];
            case 3:
                return now.nicksOf(road);
            default:
                return NO_SUCH;
        }
    }

    public int carrier(int carrier, int what) {
        Carrier hired = now.carrierAt(carrier);
        if (hired == null || !isOneOf(what, 2)) {
            return NO_SUCH;
        }
        return what == 0 ? hired.kind : hired.figure;
    }

    public int hires(int d) {
        int refusal = carrierRefusal(d);
        if (refusal != 0) {
            return refusal;
        }
        return now.addCarrier(kept[d]) ? now.carriers - 1 : NO_ROOM;
    }

    public int nick(int road, int good, int is) {
        if (!now.hasRoad(road) || !isOneOf(good, GOODS) || !isOneOf(is, 2)) {
            return NO_SUCH;
        }
        if (now.isFree(road, good) != (is == 1)) {
            return 0;
        }
        now.nicks ^= nickOf(road, good);
        return 1;
    }

    // ---- ways

    public int way(int carrier, int good, int a, int b, int what) {
        if (!isCarriage(now, carrier, good, a, b) || !isOneOf(what, 3)) {
            return NO_SUCH;
        }
        if (!trip.find(now, carrier, good, a, b)) {
            return NONE;
        }
        if (what == 0) {
            return trip.weight;
        }
        return what == 1 ? trip.size : trip.length();
    }

    public int step(int carrier, int good, int a, int b, int i) {
        if (!isCarriage(now, carrier, good, a, b) || i < 0) {
            return NO_SUCH;
        }
        if (!trip.find(now, carrier, good, a, b) || i >= trip.size) {
            return NONE;
        }
        return trip.roads[i];
    }

    public int go(int carrier, int good, int a, int b) {
        if (!isCarriage(now, carrier, good, a, b)) {
            return NO_SUCH;
        }
        int miles = milesGone(now, carrier, good, a, b);
        return miles == NONE ? CANNOT_BE : miles;
    }

    public int far(int good, int a, int b) {
        if (!isErrand(good, a, b)) {
            return NO_SUCH;
        }
        return now.leastMiles(good, a, b, NO_ROAD);
    }

    public int many(int good, int a, int b, int what) {
        if (!isErrand(good, a, b) || !isOneOf(what, 2)) {
            return NO_SUCH;
        }
        now.countLeading(good);
        return what == 0 ? now.fewestLeading(a, b, a, a, 0) : now.bars(a, b);
    }

    public int served(int good, int a, int villages, int what) {
        if (!isOneOf(good, GOODS) || !now.hasPlace(a) || !isOneOf(what, 2)) {
            return NO_SUCH;
        }
        if (!isOneOf(villages, 1 << now.places) || contains(villages, a)) {
            return NO_SUCH;
        }
        now.countLeading(good);
        int set = now.mostServed(a, villages);
        return what == 0 ? Integer.bitCount(set) : set;
    }

    // ---- spite, worth, new roads, rounds

    public int spite(int good, int a, int b, int what) {
        if (!isErrand(good, a, b) || !isOneOf(what, 2)) {
            return NO_SUCH;
        }
        now.countLeading(good);
        int worst = NONE;
        int least = NONE;
        for (int r = 0; r < now.roads; r++) {
            if (!now.isFree(r, good)) {
                continue;
            }
            int then = now.fewestLeading(a, b, now.from[r], now.to[r], -1);
            if (worst == NONE || then < least) {
                worst = r;
                least = then;
            }
        }
        return what == 0 ? worst : least;
    }

    public int worth(int road, int good, int a, int b) {
        if (!now.hasRoad(road) || !isErrand(good, a, b)) {
            return NO_SUCH;
        }
        int is = now.leastMiles(good, a, b, NO_ROAD);
        if (is == NONE) {
            return 0;
        }
        int then = now.leastMiles(good, a, b, road);
        return then == NONE ? NO_WAY_ANY_MORE : then - is;
    }

    public int newly(int good, int a, int b, int what) {
        if (!isErrand(good, a, b) || !isOneOf(what, 2)) {
            return NO_SUCH;
        }
        now.countLeading(good);
        int pair = NONE;
        int most = NONE;
        for (int p = 0; p < now.places; p++) {
            for (int q = p + 1; q < now.places; q++) {
                int then = now.fewestLeading(a, b, p, q, 1);
                if (then > most) {
                    pair = 10 * p + q;
                    most = then;
                }
            }
        }
        return what == 0 ? pair : most;
    }

    public int round(int good, int a) {
        if (!isOneOf(good, GOODS) || !now.hasPlace(a)) {
            return NO_SUCH;
        }
        int least = NONE;
        for (int r = 0; r < now.roads; r++) {
            int other = now.otherEnd(r, a);
            if (other < 0 || !now.isFree(r, good)) {
                continue;
            }
            int back = now.leastMiles(good, other, a, r);
            if (back != NONE && (least == NONE || now.miles[r] + back < least)) {
                least = now.miles[r] + back;
            }
        }
        return least;
    }

    // ---- carriages

    public int often(int carrier, int good, int a, int b) {
        if (!isCarriage(now, carrier, good, a, b)) {
            return NO_SUCH;
        }
        mind.become(now);
        int times = 0;
        while (times < MOST_OFTEN && milesGone(mind, carrier, good, a, b) != NONE) {
            times++;
        }
        return times;
    }

    public int run(int d, int what) {
        int refusal = carriagesRefusal(d, what);
        if (refusal != 0) {
            return refusal;
        }
        mind.become(now);
        int gone = 0;
        int miles = 0;
        for (int k = 0; k < rows[d].size / 4; k++) {
            int more = milesOfCarriage(rows[d], k);
            if (more != NONE) {
                gone++;
                miles += more;
            }
        }
        return what == 0 ? gone : miles;
    }

    public int orders(int d, int what) {
        int refusal = carriagesRefusal(d, what);
        if (refusal != 0) {
            return refusal;
        }
        mind.become(now);
        leastMilesOfOrders = NONE;
        int all = (1 << rows[d].size / 4) - 1;
        int found = ordersOfAll(rows[d], all, 0, 0);
        return what == 0 ? found : leastMilesOfOrders;
    }

    public int seeded(int n, int z) {
        if (n < 1 || n > MOST_SEEDED) {
            return NO_SUCH;
        }
        if (now.carriers == 0) {
            return CANNOT_BE;
        }
        mind.become(now);
        int seed = z;
        int gone = 0;
        for (int i = 0; i < n; i++) {
            seed = nextSeed(seed);
            int carrier = draw(seed, now.carriers);
            seed = nextSeed(seed);
            int good = draw(seed, GOODS);
            seed = nextSeed(seed);
            int a = draw(seed, now.places);
            seed = nextSeed(seed);
            int b = draw(seed, now.places);
            if (a != b && milesGone(mind, carrier, good, a, b) != NONE) {
                gone++;
            }
        }
        return gone;
    }

    public int judge(int d) {
        int refusal = rowRefusal(d, false);
        if (refusal != 0) {
            return refusal;
        }
        Row told = rows[d];
        mind.become(now);
        for (int i = 0; i < told.size; i += 2) {
            int road = told.cell(i);
            if (!mind.hasRoad(road) || i + 1 == told.size) {
                return i;
            }
            if (!mind.addNick(road, told.cell(i + 1))) {
                return i + 1;
            }
        }
        return NONE;
    }

    // ---- the image, what is told

    public int image() {
        pictured.become(now);
        isPictured = true;
        return now.roads;
    }

    public int restore() {
        if (!isPictured) {
            return CANNOT_BE;
        }
        now.become(pictured);
        return now.roads;
    }

    public int count(int what) {
        switch (what) {
            case 0:
                return now.places;
            case 1:
                return now.roads;
            case 2:
                return now.carriers;
            case 3:
                return Long.bitCount(now.nicks);
            case 4:
                return now.milesOfAll();
            default:
                return NO_SUCH;
        }
    }

    // ---- shelves

    public int keep(int d, int what, int k, int figure) {
        if (!isOneOf(d, SHELVES) || !isOneOf(what, 2)) {
            return NO_SUCH;
        }
        if (what == 0) {
            holds[d] = NOTHING;
            kept[d] = null;
            return 0;
        }
        if (!isOneOf(k, KINDS) || !isOneOf(figure, MOST_FIGURE + 1)) {
            return NO_SUCH;
        }
        holds[d] = A_CARRIER;
        kept[d] = carrierOf(k, figure);
        return 0;
    }

    public int row(int d, int sort, int n) {
        if (!isOneOf(d, SHELVES) || sort < BYTES || sort > INTS || n > MOST_ELEMENTS) {
            return NO_SUCH;
        }
        if (n < 0) {
            return SIZE_BELOW_ZERO;
        }
        holds[d] = A_ROW;
        kept[d] = null;
        rows[d].startAnew(sort, n);
        return 0;
    }

    public int put(int d, int i, int v) {
        int refusal = rowRefusal(d, false);
        if (refusal != 0) {
            return refusal;
        }
        return rows[d].set(i, v) ? 0 : NOT_THERE;
    }

    public long element(int d, int i) throws IllegalArgumentException, IllegalStateException {
        if (!isOneOf(d, SHELVES)) {
            throw new IllegalArgumentException("no such shelf");
        }
        if (holds[d] != A_ROW || !rows[d].has(i)) {
            throw new IllegalStateException("no row, or no such place in it");
        }
        return rows[d].cell(i);
    }

    public int copy(int d, int i, int e, int j, int n) {
        if (!isOneOf(d, SHELVES) || !isOneOf(e, SHELVES)) {
            return NO_SUCH;
        }
        if (holds[d] == NOTHING || holds[e] == NOTHING) {
            return NOTHING_HELD;
        }
        if (holds[d] != A_ROW || holds[e] != A_ROW || rows[d].sort != rows[e].sort) {
            return OTHER_KIND;
        }
        if (!rows[d].hasStretch(i, n) || !rows[e].hasStretch(j, n)) {
            return NOT_THERE;
        }
        System.arraycopy(rows[d].cells, i, rows[e].cells, j, n);
        return n;
    }

    public int wage(int d) {
        int refusal = carrierRefusal(d);
        if (refusal != 0 || kept[d] == null) {
            return refusal;
        }
        return kept[d].pay();
    }

    public int toss(int d) {
        int refusal = carrierRefusal(d);
        if (refusal != 0 || kept[d] == null) {
            return refusal;
        }
        Carrier failing = kept[d];
        try {
            failing.fail();
        } catch (IllegalStateException e) {
            return failing.figure;
        } catch (IllegalArgumentException e) {
            return 100 + failing.figure;
        } catch (UnsupportedOperationException e) {
            return 200 + failing.pay();
        }
        return NO_FAILURE;
    }

    // ---- what the calls ask first

    private static boolean isOneOf(int number, int howMany) {
        return number >= 0 && number < howMany;
    }

    private static boolean contains(int set, int place) {
        return (set >> place & 1) != 0;
    }

    private static long nickOf(int road, int good) {
        return 1L << GOODS * road + good;
    }

    private boolean isErrand(int good, int a, int b) {
        return isOneOf(good, GOODS) && now.areTwoPlaces(a, b);
    }

    private static boolean isCarriage(Land land, int carrier, int good, int a, int b) {
        return land.carrierAt(carrier) != null && isOneOf(good, GOODS) && land.areTwoPlaces(a, b);
    }

    /** 0 if the SHELF holds a ROW (of bytes, if so wanted). */
    private int rowRefusal(int d, boolean mustBeBytes) {
        if (!isOneOf(d, SHELVES)) {
            return NO_SUCH;
        }
        if (holds[d] == NOTHING) {
            return NOTHING_HELD;
        }
        boolean isWanted = holds[d] == A_ROW && (!mustBeBytes || rows[d].sort == BYTES);
        return isWanted ? 0 : OTHER_KIND;
    }

    /** 0 if the SHELF holds a CARRIER. */
    private int carrierRefusal(int d) {
        if (!isOneOf(d, SHELVES)) {
            return NO_SUCH;
        }
        if (holds[d] == NOTHING) {
            return NOTHING_HELD;
        }
        return holds[d] == A_CARRIER ? 0 : OTHER_KIND;
    }

    /** 0 if the SHELF holds a ROW of CARRIAGES and what is asked of it can be told. */
    private int carriagesRefusal(int d, int what) {
        if (!isOneOf(what, 2)) {
            return NO_SUCH;
        }
        int refusal = rowRefusal(d, true);
        if (refusal != 0) {
            return refusal;
        }
        Row told = rows[d];
        if (told.size % 4 != 0 || told.size > 4 * MOST_CARRIAGES) {
            return NOT_THERE;
        }
        for (int i = 0; i < told.size; i += 4) {
            if (!isCarriage(now, told.cell(i), told.cell(i + 1), told.cell(i + 2), told.cell(i + 3))) {
                return NOT_THERE;
            }
        }
        return 0;
    }

    // ---- carriages, one behind the other

    /** The CARRIER goes, if there is a WAY: its MILES, or NONE. */
    private int milesGone(Land land, int carrier, int good, int a, int b) {
        if (!trip.find(land, carrier, good, a, b)) {
            return NONE;
        }
        trip.leaveNicks();
        return trip.length();
    }

    /** The k-th CARRIAGE of the ROW is gone in mind, if there is a WAY: its MILES, or NONE. */
    private int milesOfCarriage(Row told, int k) {
        int i = 4 * k;
        return milesGone(mind, told.cell(i), told.cell(i + 1), told.cell(i + 2), told.cell(i + 3));
    }

    /** In how many orders all CARRIAGES that are left (bits) can be gone behind those that were. */
    private int ordersOfAll(Row told, int left, int depth, int miles) {
        if (left == 0) {
            if (leastMilesOfOrders == NONE || miles < leastMilesOfOrders) {
                leastMilesOfOrders = miles;
            }
            return 1;
        }
        if (depth >= MOST_CARRIAGES) {
            return 0;
        }
        long before = mind.nicks;
        int found = 0;
        for (int k = 0; k < MOST_CARRIAGES; k++) {
            if (!contains(left, k)) {
                continue;
            }
            int more = milesOfCarriage(told, k);
            if (more != NONE) {
                found += ordersOfAll(told, left & ~(1 << k), depth + 1, miles + more);
            }
            mind.nicks = before;
        }
        return found;
    }

    private static int nextSeed(int z) {
        return z * 1103515245 + 12345;
    }

    private static int draw(int z, int below) {
        return below < 1 ? 0 : ((z & 0x7fffffff) >> 16) % below;
    }

    // ---- the text of a land

    /** How many digits a STATEMENT has behind its letter; 0 for what is no such letter. */
    private static int digitsBehind(int letter) {
        switch (letter) {
            case 'p':
                return 1;
            case 'u':
            case 'c':
                return 2;
            case 'r':
                return 3;
            case 'g':
                return 4;
            default:
                return 0;
        }
    }

    /** The place of the first byte with which no LAND can go on; -1 if all is well written. */
    private static int firstBrokenByte(Row text) {
        int due = LETTER_DUE;
        for (int i = 0; i < text.size; i++) {
            int sign = text.cell(i);
            if (due == LETTER_DUE) {
                due = digitsBehind(sign);
                if (due == 0) {
                    return i;
                }
            } else if (due > 0) {
                if (sign < '0' || sign > '9') {
                    return i;
                }
                due--;
            } else {
                if (sign != ';') {
                    return i;
                }
                due = LETTER_DUE;
            }
        }
        return text.size > 0 && due == LETTER_DUE ? -1 : text.size;
    }

    /** Does in mind what the STATEMENT with its letter at i says; false if it isn't as told. */
    private boolean applyStatement(Row text, int i) {
        int first = text.cell(i + 1) - '0';
        int second = text.cell(i + 2) - '0';
        int third = text.cell(i + 3) - '0';
        int fourth = text.cell(i + 4) - '0';
        switch (text.cell(i)) {
            case 'p':
                return mind.setPlaces(first);
            case 'r':
                return mind.addRoad(first, second, third);
            case 'u':
                return mind.addNick(first, second);
            case 'c':
                return isOneOf(first, KINDS) && isOneOf(second, MOST_FIGURE + 1)
                        && mind.addCarrier(carrierOf(first, second));
            case 'g':
                return isCarriage(mind, first, second, third, fourth)
                        && milesGone(mind, first, second, third, fourth) != NONE;
            default:
                return false;
        }
    }

    private static Carrier carrierOf(int kind, int figure) {
        switch (kind) {
            case 1:
                return new Near(kind, figure);
            case 2:
                return new Spare(kind, figure);
            case 3:
                return new Mill(kind, figure);
            case 4:
                return new Round(kind, figure);
            case 5:
                return new Ferry(kind, figure);
            case 6:
                return new Mixed(kind, figure);
            case 7:
                return new Told(kind, figure);
            default:
                return new Carrier(kind, figure);
        }
    }

    /** A ROW; its cells are made once and used again, however often it starts anew. */
    private static final class Row {
        private final int[] cells;
        private int sort;
        private int size;

        Row() {
            cells = new int[MOST_ELEMENTS];
        }

        void startAnew(int newSort, int newSize) {
            sort = newSort;
            size = newSize;
            for (int i = 0; i < cells.length; i++) {
                cells[i] = 0;
            }
        }

        boolean has(int i) {
            return i >= 0 && i < size && i < cells.length;
        }

        boolean hasStretch(int i, int n) {
            return i >= 0 && n >= 0 && n <= size && i <= size - n;
        }

        /** -1, which no text and no ROW of CARRIAGES may hold, where there is no element. */
        int cell(int i) {
            return has(i) ? cells[i] : -1;
        }

        boolean set(int i, int value) {
            if (!has(i)) {
                return false;
            }
            if (sort == BYTES) {
                cells[i] = (byte) value;
            } else if (sort == SHORTS) {
                cells[i] = (short) value;
            } else {
                cells[i] = value;
            }
            return true;
        }
    }

    /** PLACES, ROADS with their NICKS, and CARRIERS. */
    private static final class Land {
        private int places;
        private int roads;
        private int carriers;
        /** Four bits a ROAD, a bit a GOOD. */
        private long nicks;
        private final int[] from;
        private final int[] to;
        private final int[] miles;
        private final Carrier[] hired;
        /** Of each set of PLACES, how many ROADS without NICK of a GOOD lead out of it. */
        private final int[] leading;
        private final int[] reached;

        Land() {
            places = 2;
            from = new int[MOST_ROADS];
            to = new int[MOST_ROADS];
            miles = new int[MOST_ROADS];
            hired = new Carrier[MOST_CARRIERS];
            leading = new int[1 << MOST_PLACES];
            reached = new int[MOST_PLACES];
        }

        void become(Land other) {
            places = other.places;
            roads = other.roads;
            carriers = other.carriers;
            nicks = other.nicks;
            System.arraycopy(other.from, 0, from, 0, MOST_ROADS);
            System.arraycopy(other.to, 0, to, 0, MOST_ROADS);
            System.arraycopy(other.miles, 0, miles, 0, MOST_ROADS);
            for (int c = 0; c < MOST_CARRIERS; c++) {
                hired[c] = other.hired[c];
            }
        }

        boolean hasPlace(int place) {
            return place >= 0 && place < places;
        }

        boolean areTwoPlaces(int a, int b) {
            return hasPlace(a) && hasPlace(b) && a != b;
        }

        boolean hasRoad(int road) {
            return road >= 0 && road < roads;
        }

        Carrier carrierAt(int number) {
            return number >= 0 && number < carriers && number < MOST_CARRIERS ? hired[number] : null;
        }

        boolean setPlaces(int newPlaces) {
            if (newPlaces < places || newPlaces > MOST_PLACES) {
                return false;
            }
            places = newPlaces;
            return true;
        }

        boolean addRoad(int a, int b, int distance) {
            if (!areTwoPlaces(a, b) || distance < 1 || distance > MOST_MILES || roads >= MOST_ROADS) {
                return false;
            }
            from[roads] = a;
            to[roads] = b;
            miles[roads] = distance;
            roads++;
            return true;
        }

        boolean addCarrier(Carrier carrier) {
            if (carrier == null || carriers >= MOST_CARRIERS) {
                return false;
            }
            hired[carriers] = carrier;
            carriers++;
            return true;
        }

        int nicksOf(int road) {
            return (int) (nicks >> GOODS * road) & ALL_GOODS;
        }

        boolean isFree(int road, int good) {
            return (nicks & nickOf(road, good)) == 0;
        }

        /** A NICK that there isn't yet comes on a ROAD; false if it can't. */
        boolean addNick(int road, int good) {
            if (!hasRoad(road) || !isOneOf(good, GOODS) || !isFree(road, good)) {
                return false;
            }
            nicks |= nickOf(road, good);
            return true;
        }

        int milesOfAll() {
            int sum = 0;
            for (int r = 0; r < roads; r++) {
                sum += miles[r];
            }
            return sum;
        }

        /** The PLACE to which the ROAD leads from this one; -1 if it doesn't begin here. */
        int otherEnd(int road, int place) {
            if (!hasRoad(road)) {
                return -1;
            }
            if (from[road] == place) {
                return to[road];
            }
            return to[road] == place ? from[road] : -1;
        }

        /** FAR, as if one ROAD were not there; NONE. */
        int leastMiles(int good, int a, int b, int without) {
            for (int p = 0; p < MOST_PLACES; p++) {
                reached[p] = NONE;
            }
            reached[a] = 0;
            for (int turn = 1; turn < places; turn++) {
                for (int r = 0; r < roads; r++) {
                    if (r != without && isFree(r, good)) {
                        reachAlong(from[r], to[r], miles[r]);
                        reachAlong(to[r], from[r], miles[r]);
                    }
                }
            }
            return reached[b];
        }

        private void reachAlong(int start, int end, int distance) {
            int sum = reached[start] + distance;
            if (reached[start] != NONE && (reached[end] == NONE || sum < reached[end])) {
                reached[end] = sum;
            }
        }

        /** To be called ahead of those that look at what leads out of sets of PLACES. */
        void countLeading(int good) {
            for (int set = 0; set < 1 << places; set++) {
                leading[set] = 0;
            }
            for (int r = 0; r < roads; r++) {
                for (int set = 0; isFree(r, good) && set < 1 << places; set++) {
                    if (contains(set, from[r]) != contains(set, to[r])) {
                        leading[set]++;
                    }
                }
            }
        }

        /**
         * The fewest ROADS that lead out of any set with a and without b (which are MANY), if so
         * many more were between p and q.
         */
        int fewestLeading(int a, int b, int p, int q, int more) {
            int fewest = NONE;
            for (int set = 0; set < 1 << places; set++) {
                if (!contains(set, a) || contains(set, b)) {
                    continue;
                }
                int out = leading[set] + (contains(set, p) != contains(set, q) ? more : 0);
                if (fewest == NONE || out < fewest) {
                    fewest = out;
                }
            }
            return fewest;
        }

        int bars(int a, int b) {
            int best = 1 << a;
            for (int set = (1 << places) - 1; set >= 0; set--) {
                if (contains(set, a) && !contains(set, b) && leading[set] <= leading[best]) {
                    best = set;
                }
            }
            return best;
        }

        int mostServed(int a, int villages) {
            int best = 0;
            for (int set = 0; set <= villages; set++) {
                boolean isMore = (set & ~villages) == 0 && Integer.bitCount(set) > Integer.bitCount(best);
                if (isMore && areAllServed(a, set)) {
                    best = set;
                }
            }
            return best;
        }

        /** Whether out of every set with a as many ROADS lead as there are villages outside it. */
        private boolean areAllServed(int a, int villages) {
            for (int set = 0; set < 1 << places; set++) {
                if (contains(set, a) && Integer.bitCount(villages & ~set) > leading[set]) {
                    return false;
                }
            }
            return true;
        }
    }

    /** The WAY that a CARRIER goes; looked for anew each time, in rows made once. */
    private static final class Way {
        private final int[] roads;
        private final int[] tried;
        private int size;
        private int weight;
        private Land land;
        private Carrier carrier;
        private int good;
        private int start;
        private int goal;

        Way() {
            roads = new int[MOST_PLACES - 1];
            tried = new int[MOST_PLACES - 1];
        }

        /** The numbers must be those of a CARRIAGE of the LAND. */
        boolean find(Land where, int number, int what, int a, int b) {
            land = where;
            carrier = where.carrierAt(number);
            good = what;
            start = a;
            goal = b;
            size = 0;
            weight = 0;
            extend(a, 1 << a, 0, 0);
            return size > 0;
        }

        /** Tries all that goes on from here; as ROADS are tried in their order, the first WAY stays. */
        private void extend(int at, int been, int depth, int sum) {
            if (size > 0 && sum >= weight) {
                return;
            }
            if (at == goal) {
                System.arraycopy(tried, 0, roads, 0, depth);
                size = depth;
                weight = sum;
                return;
            }
            if (carrier == null || depth >= carrier.mostRoads() || depth >= tried.length) {
                return;
            }
            int loads = carrier.loads(good, been, land.places);
            for (int r = 0; r < land.roads; r++) {
                int next = land.otherEnd(r, at);
                if (next < 0 || contains(been, next) || !carrier.mayGo(r, land.nicksOf(r), loads)) {
                    continue;
                }
                tried[depth] = r;
                int more = carrier.weightOf(r, land.miles[r], land.nicksOf(r));
                extend(next, been | 1 << next, depth + 1, sum + more);
            }
        }

        int length() {
            int sum = 0;
            for (int i = 0; i < size; i++) {
                sum += land.miles[roads[i]];
            }
            return sum;
        }

        void leaveNicks() {
            int at = start;
            int been = 1 << start;
            for (int i = 0; i < size && carrier != null; i++) {
                int road = roads[i];
                long left = carrier.leaves(road, carrier.loads(good, been, land.places));
                land.nicks |= left << GOODS * road;
                at = land.otherEnd(road, at);
                been |= 1 << at;
            }
        }
    }

    /** A CARRIER; his LOADS and the NICKS of a ROAD are bits of GOODS, where he has been bits of PLACES. */
    private static class Carrier {
        final int kind;
        final int figure;

        Carrier(int kind, int figure) {
            this.kind = kind;
            this.figure = figure;
        }

        int loads(int good, int been, int places) {
            return 1 << good;
        }

        boolean mayGo(int road, int nicks, int loads) {
            return (nicks & loads) == 0;
        }

        int leaves(int road, int loads) {
            return loads;
        }

        int weightOf(int road, int miles, int nicks) {
            return 10;
        }

        int mostRoads() {
            return MOST_PLACES - 1;
        }

        int pay() {
            return 5;
        }

        void fail() {
            if (figure != 0) {
                throw new IllegalStateException("a carrier fails");
            }
        }
    }

    private static class Near extends Carrier {
        Near(int kind, int figure) {
            super(kind, figure);
        }

        int weightOf(int road, int miles, int nicks) {
            return 10 * miles;
        }

        int pay() {
            return super.pay() - 1;
        }
    }

    private static final class Spare extends Near {
        Spare(int kind, int figure) {
            super(kind, figure);
        }

        int weightOf(int road, int miles, int nicks) {
            return super.weightOf(road, miles, nicks) + GOODS - Integer.bitCount(nicks);
        }

        int pay() {
            return super.pay() + figure;
        }

        void fail() {
            if (figure != 0) {
                throw new IllegalArgumentException("a spare one fails");
            }
        }
    }

    private static class Mill extends Carrier {
        Mill(int kind, int figure) {
            super(kind, figure);
        }

        int loads(int good, int been, int places) {
            boolean isMilled = places > 0 && (been >> figure % places & 1) != 0;
            return 1 << (isMilled ? (good + 1) % GOODS : good);
        }

        int pay() {
            return super.pay() + 2 * figure;
        }
    }

    private static final class Round extends Carrier {
        Round(int kind, int figure) {
            super(kind, figure);
        }

        int weightOf(int road, int miles, int nicks) {
            return super.weightOf(road, miles, nicks) + (road == figure ? 90 : 0);
        }
    }

    private static final class Ferry extends Carrier {
        Ferry(int kind, int figure) {
            super(kind, figure);
        }

        boolean mayGo(int road, int nicks, int loads) {
            return road == figure || super.mayGo(road, nicks, loads);
        }

        int leaves(int road, int loads) {
            return road == figure ? 0 : loads;
        }

        int pay() {
            return 3 * super.pay();
        }

        void fail() {
            // a FERRY has no FAILURE, whatever its FIGURE
        }
    }

    private static final class Mixed extends Mill {
        Mixed(int kind, int figure) {
            super(kind, figure);
        }

        int loads(int good, int been, int places) {
            int ofMill = super.loads(good, been, places);
            return ofMill | (ofMill << 1 | ofMill >> GOODS - 1) & ALL_GOODS;
        }

        int weightOf(int road, int miles, int nicks) {
            return super.weightOf(road, miles, nicks) + miles;
        }

        int pay() {
            return 2 * super.pay();
        }

        void fail() {
            if (figure != 0) {
                throw new UnsupportedOperationException("a mixed one fails");
            }
        }
    }

    private static final class Told extends Near {
        Told(int kind, int figure) {
            super(kind, figure);
        }

        int mostRoads() {
            return figure;
        }

        int pay() {
            return super.pay() - figure;
        }
    }
}
