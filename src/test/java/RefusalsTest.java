/**
 * What the calls refuse: numbers one below and one above their range, what is held on shelves, and of
 * several refusals the first one as they are told at the call; behind each one a look that nothing changed.
 */
public final class RefusalsTest {
    private static final int MAX = Lands.MAX;
    private static final int MIN = Lands.MIN;
    private static final Due DUE = new Due("RefusalsTest");

    private interface World {
        OncePerRoad made();
    }

    public static void main(String[] args) {
        numbersOutOfRange();
        nothingOrAnotherKindOnTheShelf();
        lands();
        hires();
        ways();
        spiteWorthNewRoads();
        carriages();
        images();
        shelves();
        elements();
        copies();
        tosses();
        DUE.end();
    }

    // ---- worlds

    /** 4 places, 4 roads, 3 carriers, an image of something else, and on the shelves some of each. */
    private static OncePerRoad common() {
        OncePerRoad x = Lands.of("p4;r011;r131;r022;u12;c00;c71;c53;");
        x.image();
        Lands.read(x, "r234;");
        x.nick(0, 3, 1);
        x.keep(0, 1, 6, 2);
        Lands.tell(x, 1, 0, 0, 0, 1, 2);
        Lands.tell(x, 2, 1, 5, -6, 700);
        Lands.tell(x, 3, 2, 70000, 1);
        x.row(5, 0, 0);
        x.keep(6, 1, 5, 3);
        return x;
    }

    /** No room for a place, a road, a carrier. */
    private static OncePerRoad full() {
        OncePerRoad x = Lands.of("p6;r011;r122;r233;r344;r455;r506;r027;r138;r249;c01;c12;c23;c34;c45;c56;");
        x.image();
        x.nick(8, 1, 1);
        x.keep(0, 1, 2, 9);
        Lands.tell(x, 1, 0, 1);
        return x;
    }

    /** A road, and no way of good 0, for no one. */
    private static OncePerRoad barred() {
        OncePerRoad x = Lands.of("p3;r011;u00;c00;c10;");
        Lands.tell(x, 1, 0, 0, 0, 0, 1);
        return x;
    }

    private static void refused(World world, long want, String name, int... arguments) {
        dueUnchanged(world, want, name, arguments);
    }

    /** A twin on which the call was not made tells what there must be behind it. */
    private static void dueUnchanged(World world, long want, String name, int... arguments) {
        OncePerRoad x = world.made();
        String call = Lands.told(name, arguments);
        DUE.is(call, Lands.answer(x, name, arguments), want);
        DUE.same("a look behind " + call, Lands.look(x), Lands.look(world.made()));
    }

    private static void taken(World world, String name, int... arguments) {
        long got = Lands.answer(world.made(), name, arguments);
        DUE.same(Lands.told(name, arguments) + " is in range", String.valueOf(got != -1), "true");
    }

    // ---- -1, one below and one above each range

    /** Arguments with which the call is in range, and for each of them its least and its greatest. */
    private static void numbers(String name, int[] base, int[]... ranges) {
        DUE.by("a number out of range, " + name);
        for (int i = 0; i < base.length; i++) {
            int least = ranges[i][0];
            int greatest = ranges[i][1];
            taken(RefusalsTest::common, name, with(base, i, least));
            taken(RefusalsTest::common, name, with(base, i, greatest));
            if (least != MIN) {
                refused(RefusalsTest::common, -1, name, with(base, i, least - 1));
                refused(RefusalsTest::common, -1, name, with(base, i, MIN));
            }
            if (greatest != MAX) {
                refused(RefusalsTest::common, -1, name, with(base, i, greatest + 1));
                refused(RefusalsTest::common, -1, name, with(base, i, MAX));
            }
        }
    }

    private static int[] with(int[] base, int i, int value) {
        int[] changed = base.clone();
        changed[i] = value;
        return changed;
    }

    private static void numbersOutOfRange() {
        int[] any = {MIN, MAX};
        int[] shelf = {0, 7};
        int[] place = {0, 3};
        int[] road = {0, 3};
        int[] carrier = {0, 2};
        int[] good = {0, 3};
        int[] two = {0, 1};
        numbers("land", new int[] {7}, shelf);
        numbers("road", new int[] {1, 1}, road, new int[] {0, 3});
        numbers("carrier", new int[] {1, 1}, carrier, two);
        numbers("hires", new int[] {1}, shelf);
        numbers("nick", new int[] {1, 1, 1}, road, good, two);
        numbers("way", new int[] {0, 1, 1, 2, 1}, carrier, good, place, place, new int[] {0, 2});
        numbers("step", new int[] {0, 1, 1, 2, 0}, carrier, good, place, place, new int[] {0, MAX});
        numbers("go", new int[] {0, 1, 1, 2}, carrier, good, place, place);
        numbers("far", new int[] {1, 1, 2}, good, place, place);
        numbers("many", new int[] {1, 1, 2, 0}, good, place, place, two);
        numbers("served", new int[] {1, 0, 0, 0}, good, place, new int[] {0, 14}, two);
        numbers("served", new int[] {1, 3, 7, 1}, good, new int[] {3, 3}, new int[] {0, 7}, two);
        numbers("spite", new int[] {1, 1, 2, 0}, good, place, place, two);
        numbers("worth", new int[] {1, 1, 1, 2}, road, good, place, place);
        numbers("newly", new int[] {1, 1, 2, 0}, good, place, place, two);
        numbers("round", new int[] {1, 1}, good, place);
        numbers("often", new int[] {0, 1, 1, 2}, carrier, good, place, place);
        numbers("run", new int[] {1, 0}, shelf, two);
        numbers("orders", new int[] {1, 0}, shelf, two);
        numbers("seeded", new int[] {7, 7}, new int[] {1, 30}, any);
        numbers("judge", new int[] {1}, shelf);
        numbers("count", new int[] {1}, new int[] {0, 4});
        numbers("keep", new int[] {1, 1, 1, 1}, shelf, two, new int[] {0, 7}, new int[] {0, 9});
        numbers("keep", new int[] {1, 0, 8, 10}, shelf, new int[] {0, 0}, any, any);
        numbers("row", new int[] {1, 1, 1}, shelf, new int[] {0, 2}, new int[] {MIN, 100});
        numbers("put", new int[] {3, 1, 1}, shelf, any, any);
        numbers("copy", new int[] {1, 0, 5, 0, 0}, shelf, any, shelf, any, any);
        numbers("wage", new int[] {0}, shelf);
        numbers("toss", new int[] {0}, shelf);
        numbersOfGrowingLands();
    }

    /** What there is as a number follows the land: places, roads, carriers. */
    private static void numbersOfGrowingLands() {
        DUE.by("such a PLACE, ROAD, CARRIER as there is by now");
        for (int n = 2; n <= 6; n++) {
            String text = "p" + n + ";" + "r011;".repeat(n) + "c00;".repeat(n - 1);
            World world = () -> Lands.of(text);
            taken(world, "far", 0, 0, n - 1);
            taken(world, "round", 0, n - 1);
            taken(world, "served", 0, 0, (1 << n) - 2, 0);
            taken(world, "road", n - 1, 0);
            taken(world, "carrier", n - 2, 0);
            refused(world, -1, "far", 0, 0, n);
            refused(world, -1, "round", 0, n);
            refused(world, -1, "served", 0, 0, 1 << n, 0);
            refused(world, -1, "road", n, 0);
            refused(world, -1, "nick", n, 0, 1);
            refused(world, -1, "worth", n, 0, 0, 1);
            refused(world, -1, "carrier", n - 1, 0);
            refused(world, -1, "go", n - 1, 0, 0, 1);
            refused(world, -1, "often", n - 1, 0, 0, 1);
        }
        for (String call : new String[] {"road", "carrier"}) refused(OncePerRoad::new, -1, call, 0, 0);
        refused(OncePerRoad::new, -1, "nick", 0, 0, 0);
        refused(OncePerRoad::new, -1, "go", 0, 0, 0, 1);
        refused(OncePerRoad::new, -1, "worth", 0, 0, 0, 1);
    }

    // ---- -11, -12

    private static void nothingOrAnotherKindOnTheShelf() {
        DUE.by("-11 nothing is held where something is wanted; -12 it is of another kind");
        for (String call : new String[] {"land", "hires", "judge", "wage", "toss"}) {
            refused(RefusalsTest::common, -11, call, 4);
        }
        for (int what = 0; what < 2; what++) {
            for (String call : new String[] {"run", "orders"}) {
                refused(RefusalsTest::common, -11, call, 4, what);
                refused(RefusalsTest::common, -12, call, 0, what);
                refused(RefusalsTest::common, -12, call, 2, what);
                refused(RefusalsTest::common, -12, call, 3, what);
            }
        }
        for (int d : new int[] {0, 6}) {
            refused(RefusalsTest::common, -12, "land", d);
            refused(RefusalsTest::common, -12, "judge", d);
        }
        for (int d : new int[] {1, 2, 3, 5, 7}) {
            for (String call : new String[] {"hires", "wage", "toss"}) refused(RefusalsTest::common, -12, call, d);
        }
        for (int d = 0; d < 8; d++) {
            refused(OncePerRoad::new, -11, "wage", d);
            refused(OncePerRoad::new, -11, "put", d, 0, 0);
            refused(OncePerRoad::new, -11, "copy", d, 0, d, 0, 0);
            refused(OncePerRoad::new, Lands.NO_SUCH_ELEMENT, "element", d, 0);
        }
    }

    // ---- call by call, in the order in which they are told

    private static void lands() {
        DUE.by("land: the FAULT; -1, -11, -12");
        refused(RefusalsTest::common, -12, "land", 2);
        refused(RefusalsTest::common, -12, "land", 3);
        refused(RefusalsTest::common, -1000, "land", 5);
        refused(RefusalsTest::common, -1000, "land", 1);
        World cutOff = () -> toldLand("p5;r121;c00;g0012;p");
        refused(cutOff, -1019, "land", 7);
        World untold = () -> toldLand("p5;r121;c00;g3012;u22;u03;");
        refused(untold, -2022, "land", 7);
        World noWay = () -> toldLand("p5;g0104;c00;");
        refused(noWay, -2003, "land", 7);
        World noPlace = () -> toldFull("u00;p7;");
        refused(noPlace, -2004, "land", 7);
        World noRoad = () -> toldFull("u00;p6;r011;");
        refused(noRoad, -2007, "land", 7);
        World noCarrier = () -> toldFull("u00;g1105;c00;");
        refused(noCarrier, -2010, "land", 7);
    }

    private static OncePerRoad toldLand(String text) {
        OncePerRoad x = common();
        Lands.tell(x, 7, 0, text.chars().toArray());
        return x;
    }

    private static OncePerRoad toldFull(String text) {
        OncePerRoad x = full();
        Lands.tell(x, 7, 0, text.chars().toArray());
        return x;
    }

    private static void hires() {
        DUE.by("hires: -1, -11, -12 (a ROW), -2");
        refused(RefusalsTest::full, -1, "hires", 8);
        refused(RefusalsTest::full, -1, "hires", -1);
        refused(RefusalsTest::full, -11, "hires", 2);
        refused(RefusalsTest::full, -12, "hires", 1);
        refused(RefusalsTest::full, -2, "hires", 0);
    }

    private static void ways() {
        DUE.by("one PLACE twice, where two are told");
        for (int p = 0; p < 4; p++) {
            refused(RefusalsTest::common, -1, "way", 2, 1, p, p, 0);
            refused(RefusalsTest::common, -1, "step", 2, 1, p, p, 0);
            refused(RefusalsTest::common, -1, "go", 2, 1, p, p);
            refused(RefusalsTest::common, -1, "far", 1, p, p);
            refused(RefusalsTest::common, -1, "many", 1, p, p, 0);
            refused(RefusalsTest::common, -1, "many", 1, p, p, 1);
            refused(RefusalsTest::common, -1, "spite", 1, p, p, 0);
            refused(RefusalsTest::common, -1, "worth", 0, 1, p, p);
            refused(RefusalsTest::common, -1, "newly", 1, p, p, 0);
            refused(RefusalsTest::common, -1, "often", 2, 1, p, p);
            refused(RefusalsTest::common, -1, "served", 1, p, 1 << p, 0);
            refused(RefusalsTest::common, -1, "served", 1, p, 15, 1);
        }
        DUE.by("-4 and -3 where there is no WAY, -1 ahead of both");
        for (int what = 0; what < 3; what++) refused(RefusalsTest::barred, -4, "way", 0, 0, 0, 1, what);
        refused(RefusalsTest::barred, -1, "way", 0, 0, 0, 1, 3);
        refused(RefusalsTest::barred, -1, "way", 0, 0, 0, 1, -1);
        refused(RefusalsTest::barred, -1, "way", 2, 0, 0, 1, 0);
        refused(RefusalsTest::barred, -4, "step", 1, 0, 0, 1, 0);
        refused(RefusalsTest::barred, -4, "step", 1, 1, 0, 1, 1);
        refused(RefusalsTest::barred, -1, "step", 1, 0, 0, 1, -1);
        refused(RefusalsTest::barred, -1, "step", 1, 0, 1, 1, 0);
        refused(RefusalsTest::barred, -3, "go", 0, 0, 0, 1);
        refused(RefusalsTest::barred, -3, "go", 1, 3, 1, 2);
        refused(RefusalsTest::barred, -1, "go", 0, 0, 0, 3);
        refused(RefusalsTest::barred, -1, "go", 0, 0, 0, 0);
        refused(RefusalsTest::barred, -4, "far", 0, 0, 1);
        refused(RefusalsTest::barred, -4, "far", 1, 2, 1);
        refused(RefusalsTest::barred, -1, "far", 0, 0, 3);
        refused(RefusalsTest::barred, -4, "round", 1, 0);
        refused(RefusalsTest::barred, -1, "round", 1, 3);
    }

    private static void spiteWorthNewRoads() {
        DUE.by("spite: -4; -1");
        refused(RefusalsTest::barred, -4, "spite", 0, 0, 1, 0);
        refused(RefusalsTest::barred, -4, "spite", 0, 0, 1, 1);
        refused(RefusalsTest::barred, -1, "spite", 0, 0, 1, 2);
        refused(RefusalsTest::barred, -1, "spite", 0, 0, 0, 0);
        DUE.by("in mind: nothing is changed by what is only asked");
        dueUnchanged(RefusalsTest::common, 20, "way", 0, 0, 0, 3, 0);
        dueUnchanged(RefusalsTest::common, 1, "step", 0, 0, 0, 3, 1);
        dueUnchanged(RefusalsTest::common, 2, "far", 0, 0, 3);
        dueUnchanged(RefusalsTest::common, 2, "many", 0, 0, 3, 0);
        dueUnchanged(RefusalsTest::common, 6, "served", 0, 0, 14, 1);
        dueUnchanged(RefusalsTest::common, 8, "round", 0, 0);
        dueUnchanged(RefusalsTest::barred, 0, "spite", 1, 0, 1, 1);
        dueUnchanged(RefusalsTest::barred, 99, "worth", 0, 1, 0, 1);
        dueUnchanged(RefusalsTest::barred, 0, "worth", 0, 0, 0, 1);
        dueUnchanged(RefusalsTest::barred, 1, "newly", 0, 0, 1, 0);
        dueUnchanged(RefusalsTest::barred, 2, "newly", 1, 0, 1, 1);
        dueUnchanged(RefusalsTest::full, 3, "often", 0, 0, 0, 1);
        dueUnchanged(RefusalsTest::common, 2, "often", 0, 0, 0, 3);
        dueUnchanged(RefusalsTest::common, 9, "often", 2, 0, 2, 3);
        dueUnchanged(RefusalsTest::common, 1, "run", 1, 0);
        dueUnchanged(RefusalsTest::common, 1, "orders", 1, 0);
        dueUnchanged(RefusalsTest::common, 3, "judge", 1);
        dueUnchanged(RefusalsTest::common, 2, "seeded", 4, 0);
    }

    private static void carriages() {
        DUE.by("run, orders: -1, -11, -12 (no ROW of bytes), -13 (not as told)");
        for (String call : new String[] {"run", "orders"}) {
            refused(RefusalsTest::common, -1, call, 8, 2);
            refused(RefusalsTest::common, -1, call, 4, 2);
            refused(RefusalsTest::common, -1, call, 0, -1);
            refused(RefusalsTest::common, -1, call, 2, 2);
            refused(RefusalsTest::common, -13, call, 7, 0);
            refused(RefusalsTest::common, -13, call, 7, 1);
            refused(RefusalsTest::common, -1, call, 7, 2);
            int[][] untold = {
                {0}, {0, 0}, {0, 0, 0}, {0, 0, 0, 1, 0}, {0, 0, 0, 1, 0, 0, 0}, {3, 0, 0, 1}, {-1, 0, 0, 1},
                {0, 4, 0, 1}, {0, -1, 0, 1}, {0, 0, 4, 1}, {0, 0, -1, 1}, {0, 0, 0, 4}, {0, 0, 0, -1}, {0, 0, 2, 2},
                {0, 0, 0, 1, 0, 0, 0, 1, 0, 0, 0, 0}, {0, 0, 0, 1, 3, 0, 0, 1}, sameCarriages(6), sameCarriages(25),
            };
            for (int[] told : untold) {
                refused(() -> toldRow(0, told), -13, call, 4, 0);
                refused(() -> toldRow(0, told), -13, call, 4, 1);
                refused(() -> toldRow(0, told), -1, call, 4, 2);
                refused(() -> toldRow(1, told), -12, call, 4, 0);
            }
            dueUnchanged(() -> toldRow(0, sameCarriages(5)), call.equals("run") ? 2 : 0, call, 4, 0);
            refused(() -> Lands.of("c00;"), -11, call, 0, 0);
            refused(RefusalsTest::noCarriers, -13, call, 0, 0);
        }
        DUE.by("seeded: -1, -3 there are no CARRIERS");
        refused(RefusalsTest::noCarriers, -3, "seeded", 1, 0);
        refused(RefusalsTest::noCarriers, -3, "seeded", 30, MIN);
        refused(RefusalsTest::noCarriers, -1, "seeded", 0, 0);
        refused(RefusalsTest::noCarriers, -1, "seeded", 31, 0);
        refused(RefusalsTest::noCarriers, -1, "seeded", MIN, 0);
    }

    private static OncePerRoad noCarriers() {
        OncePerRoad x = Lands.of("r011;");
        Lands.tell(x, 0, 0, 0, 0, 0, 1);
        return x;
    }

    private static OncePerRoad toldRow(int sort, int[] values) {
        OncePerRoad x = common();
        Lands.tell(x, 4, sort, values);
        return x;
    }

    private static int[] sameCarriages(int n) {
        int[] told = new int[4 * n];
        for (int i = 3; i < told.length; i += 4) told[i] = 3;
        return told;
    }

    private static void images() {
        DUE.by("restore: -3 there is none");
        refused(OncePerRoad::new, -3, "restore");
        refused(RefusalsTest::barred, -3, "restore");
    }

    private static void shelves() {
        DUE.by("row: -1 (n above 100); -14");
        refused(RefusalsTest::common, -14, "row", 3, 0, -1);
        refused(RefusalsTest::common, -14, "row", 4, 2, MIN);
        refused(RefusalsTest::common, -1, "row", 8, 0, -1);
        refused(RefusalsTest::common, -1, "row", -1, 0, -1);
        refused(RefusalsTest::common, -1, "row", 3, 3, -1);
        refused(RefusalsTest::common, -1, "row", 3, -1, MIN);
        refused(RefusalsTest::common, -1, "row", 0, 0, 101);
        DUE.by("keep: -1");
        refused(RefusalsTest::common, -1, "keep", 8, 0, 0, 0);
        refused(RefusalsTest::common, -1, "keep", -1, 0, 0, 0);
        refused(RefusalsTest::common, -1, "keep", 0, 2, 0, 0);
        refused(RefusalsTest::common, -1, "keep", 3, -1, 0, 0);
        refused(RefusalsTest::common, -1, "keep", 3, 1, 8, 0);
        refused(RefusalsTest::common, -1, "keep", 4, 1, 7, 10);
        DUE.by("put: -1, -11, -12, -13");
        for (int i : new int[] {MIN, -1, 0, 99, 100, MAX}) {
            refused(RefusalsTest::common, -1, "put", 8, i, 9);
            refused(RefusalsTest::common, -1, "put", -1, i, 9);
            refused(RefusalsTest::common, -11, "put", 4, i, 9);
            refused(RefusalsTest::common, -12, "put", 0, i, 9);
            refused(RefusalsTest::common, -13, "put", 5, i, 9);
        }
        refused(RefusalsTest::common, -13, "put", 1, 4, 9);
        refused(RefusalsTest::common, -13, "put", 2, 3, 9);
        refused(RefusalsTest::common, -13, "put", 3, 2, 9);
        refused(RefusalsTest::common, -13, "put", 3, -1, 9);
    }

    private static void elements() {
        DUE.by("element: IllegalArgumentException, no such SHELF; IllegalStateException: no ROW, no such place");
        for (int i : new int[] {MIN, -1, 0, 100, MAX}) {
            for (int d : new int[] {MIN, -1, 8, MAX}) refused(RefusalsTest::common, Lands.NO_SUCH_SHELF, "element", d, i);
            for (int d : new int[] {0, 4, 5}) refused(RefusalsTest::common, Lands.NO_SUCH_ELEMENT, "element", d, i);
        }
        refused(RefusalsTest::common, Lands.NO_SUCH_ELEMENT, "element", 3, 2);
        refused(RefusalsTest::common, Lands.NO_SUCH_ELEMENT, "element", 3, -1);
        dueUnchanged(RefusalsTest::common, 1, "element", 3, 1);
    }

    private static void copies() {
        DUE.by("copy: -1, -11 (either), -12 (no ROWS of one SORT), -13 (n below 0, too)");
        for (int n : new int[] {-1, 0, 1, 5}) {
            for (int e : new int[] {0, 1, 2, 3, 4, 5}) {
                refused(RefusalsTest::common, -1, "copy", 8, 0, e, 0, n);
                refused(RefusalsTest::common, -1, "copy", e, 0, 8, 0, n);
                refused(RefusalsTest::common, -1, "copy", -1, 0, e, 0, n);
                refused(RefusalsTest::common, -1, "copy", e, 0, -1, 0, n);
                refused(RefusalsTest::common, -11, "copy", 4, 0, e, 0, n);
                refused(RefusalsTest::common, -11, "copy", e, 0, 4, 0, n);
            }
            for (int e : new int[] {0, 1, 2, 3, 5, 6}) {
                refused(RefusalsTest::common, -12, "copy", 0, 0, e, 0, n);
                refused(RefusalsTest::common, -12, "copy", e, 0, 0, 0, n);
            }
            refused(RefusalsTest::common, -12, "copy", 1, 0, 2, 0, n);
            refused(RefusalsTest::common, -12, "copy", 2, 0, 3, 0, n);
            refused(RefusalsTest::common, -12, "copy", 3, 0, 1, 0, n);
        }
        int[][] notThere = {
            {0, 0, -1}, {0, 0, MIN}, {-1, 0, 1}, {0, -1, 1}, {-1, 0, 0}, {0, -1, 0}, {4, 0, 1}, {5, 0, 0}, {1, 0, 4},
            {0, 33, 1}, {0, 34, 0}, {0, 30, 4}, {MAX, 0, 1}, {0, MAX, 1}, {0, 0, MAX}, {MAX, MAX, MAX}, {1, 0, MAX},
        };
        World longer = () -> toldRow(0, new int[33]);
        for (int[] t : notThere) refused(longer, -13, "copy", 1, t[0], 4, t[1], t[2]);
        dueUnchanged(longer, 0, "copy", 1, 4, 4, 33, 0);
        dueUnchanged(longer, 0, "copy", 5, 0, 5, 0, 0);
        refused(longer, -13, "copy", 5, 0, 5, 0, 1);
    }

    private static void tosses() {
        DUE.by("toss: -1, -11, -12 (a ROW); -15: FERRY ones, and any with FIGURE 0, have none");
        for (int kind = 0; kind < 8; kind++) {
            int of = kind;
            World none = () -> kept(of, 0);
            refused(none, -15, "toss", 4);
        }
        for (int figure = 1; figure < 10; figure++) {
            int of = figure;
            refused(() -> kept(5, of), -15, "toss", 4);
        }
        dueUnchanged(() -> kept(7, 1), 1, "toss", 4);
        dueUnchanged(() -> kept(6, 9), 246, "toss", 4);
        dueUnchanged(() -> kept(7, 9), -5, "wage", 4);
    }

    private static OncePerRoad kept(int kind, int figure) {
        OncePerRoad x = common();
        x.keep(4, 1, kind, figure);
        return x;
    }
}
