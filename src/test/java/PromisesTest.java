/** A part for each promise of the document: ordinary inputs, the edges it names, wrong inputs. */
public final class PromisesTest {
    /** Roads 0 and 1 lead from 0 by 1 to 3, 2 and 3 by 2, 4 at once but far. */
    private static final String DIAMOND = "p4;r011;r131;r022;r232;r039;";
    private static final int MAX = Integer.MAX_VALUE;
    private static final int MIN = Integer.MIN_VALUE;
    private static final int TEXT_SHELF = 7;

    private static int promise;
    private static int checks;
    private static int wrong;
    private static OncePerRoad x = new OncePerRoad();

    public static void main(String[] args) {
        newObject();
        landsThatCome();
        landsWithFaults();
        roads();
        carriers();
        hires();
        nicks();
        waysByKind();
        waysOnceMore();
        steps();
        goes();
        far();
        many();
        served();
        spite();
        worth();
        newly();
        round();
        often();
        run();
        orders();
        seeded();
        judge();
        image();
        count();
        keep();
        row();
        put();
        element();
        copy();
        wage();
        toss();
        System.out.println("PromisesTest: " + checks + " answers, " + wrong + " wrong");
        if (wrong != 0) System.exit(1);
    }

    // ---- what the parts share

    private static void due(String call, long got, long want) {
        checks++;
        if (got == want) return;
        wrong++;
        System.out.println("promise " + promise + ": " + call + " answered " + got + ", due is " + want);
    }

    /** A new object: none is used for more than the 512 calls for which the document tells the answers. */
    private static void start(int number, String text) {
        promise = number;
        x = new OncePerRoad();
        if (!text.isEmpty() && read(text) < 1) {
            due("the land of the test comes", 0, 1);
        }
    }

    private static int read(String text) {
        x.row(TEXT_SHELF, 0, text.length());
        for (int i = 0; i < text.length(); i++) x.put(TEXT_SHELF, i, text.charAt(i));
        return x.land(TEXT_SHELF);
    }

    private static void tell(int d, int sort, int... values) {
        x.row(d, sort, values.length);
        for (int i = 0; i < values.length; i++) x.put(d, i, values[i]);
    }

    /** 0: an element; 1: no such shelf; 2: no row, no such place. */
    private static int thrownBy(int d, int i) {
        try {
            x.element(d, i);
            return 0;
        } catch (IllegalArgumentException e) {
            return 1;
        } catch (IllegalStateException e) {
            return 2;
        }
    }

    // ---- lands

    private static void newObject() {
        start(1, "");
        due("count(0)", x.count(0), 2);
        for (int what = 1; what < 5; what++) due("count(" + what + ")", x.count(what), 0);
        due("road(0, 0)", x.road(0, 0), -1);
        due("carrier(0, 0)", x.carrier(0, 0), -1);
        for (int d = 0; d < 8; d++) due("wage(" + d + ")", x.wage(d), -11);
        due("restore()", x.restore(), -3);
    }

    private static void landsThatCome() {
        start(2, "");
        due("all kinds of statements", read("p3;r014;r129;c29;u01;g01"), -1024);
        due("nothing came", x.count(0), 2);
        due("all kinds of statements", read("p3;r014;r129;c29;u01;g0202;"), 6);
        due("count(0)", x.count(0), 3);
        due("count(1)", x.count(1), 2);
        due("count(2)", x.count(2), 1);
        due("nicks by u and by g", x.road(0, 3), 6);
        due("nicks by g", x.road(1, 3), 4);
        due("the text stays", x.element(TEXT_SHELF, 0), 'p');
        due("it stays so", x.land(TEXT_SHELF), -2017);
        due("as many places again", read("p3;"), 1);
        due("six places", read("p6;"), 1);
        start(2, "");
        due("33 statements", read("p2;".repeat(33)), 33);
        due("9 roads", read("r011;".repeat(9)), 9);
        due("6 carriers", read("c00;c79;".repeat(3)), 6);
        due("a tenth road", read("r011;"), -2000);
        due("a seventh carrier", read("c00;"), -2000);
        start(2, "p3;");
        due("a land comes to a land", read("r011;"), 1);
        due("and one more", read("r122;c00;"), 2);
        due("road(1, 0)", x.road(1, 0), 1);
    }

    private static void landsWithFaults() {
        start(2, "");
        String[] broken = {
            "", "z", "p", "p2", "p2;p", "r01;", "r0111;", "u00", "c0;", "g0001", ";", "P2;", "p:;", "p/;", "p2:", "p9;z", "p9;p",
        };
        int[] places = {0, 0, 1, 2, 4, 3, 4, 3, 2, 5, 0, 0, 1, 1, 2, 3, 4};
        for (int i = 0; i < broken.length; i++) due("land of " + broken[i], read(broken[i]), -1000 - places[i]);
        due("a text of 100 bytes", read("p2;".repeat(33) + "p"), -1100);
        start(2, "");
        String[] untold = {
            "p1;", "p0;", "p7;", "p3;p2;", "r000;", "r021;", "r201;", "r010;", "u00;", "r011;u10;", "r011;u04;",
            "r011;u03;u03;", "c80;", "c90;", "g0001;", "c00;g0001;", "c00;r011;g1001;", "c00;r011;g0401;",
            "c00;r011;g0000;", "c00;r011;g0002;", "c00;r011;g0020;", "c00;r011;g0001;g0001;", "c70;r011;g0001;",
        };
        int[] letters = {0, 0, 0, 3, 0, 0, 0, 0, 0, 5, 5, 9, 0, 0, 0, 4, 9, 9, 9, 9, 9, 15, 9};
        for (int i = 0; i < untold.length; i++) due("land of " + untold[i], read(untold[i]), -2000 - letters[i]);
        due("a place that comes too late", read("r021;p3;"), -2000);
        due("ten roads", read("r011;".repeat(10)), -2045);
        due("seven carriers", read("c00;".repeat(7)), -2024);
        for (int what = 1; what < 5; what++) due("nothing came, count(" + what + ")", x.count(what), 0);
        due("count(0)", x.count(0), 2);
        due("land(-1)", x.land(-1), -1);
        due("land(8)", x.land(8), -1);
        due("land(0) of nothing", x.land(0), -11);
        x.keep(0, 1, 0, 0);
        due("land(0) of a carrier", x.land(0), -12);
        tell(0, 1, 'p', '2', ';');
        due("land(0) of shorts", x.land(0), -12);
        tell(0, 2, 'p', '2', ';');
        due("land(0) of ints", x.land(0), -12);
    }

    private static void roads() {
        start(3, "p6;r509;u02;u03;");
        due("road(0, 0)", x.road(0, 0), 5);
        due("road(0, 1)", x.road(0, 1), 0);
        due("road(0, 2)", x.road(0, 2), 9);
        due("road(0, 3)", x.road(0, 3), 12);
        read("r141;");
        due("road(1, 0)", x.road(1, 0), 1);
        due("road(1, 1)", x.road(1, 1), 4);
        due("road(0, 4)", x.road(0, 4), -1);
        due("road(0, -1)", x.road(0, -1), -1);
        due("road(2, 0)", x.road(2, 0), -1);
        due("road(-1, 0)", x.road(-1, 0), -1);
        due("road(MAX, 0)", x.road(MAX, 0), -1);
        due("road(MIN, 0)", x.road(MIN, 0), -1);
    }

    private static void carriers() {
        start(4, "c79;c00;");
        due("carrier(0, 0)", x.carrier(0, 0), 7);
        due("carrier(0, 1)", x.carrier(0, 1), 9);
        due("carrier(1, 0)", x.carrier(1, 0), 0);
        due("carrier(1, 1)", x.carrier(1, 1), 0);
        due("carrier(2, 0)", x.carrier(2, 0), -1);
        due("carrier(-1, 0)", x.carrier(-1, 0), -1);
        due("carrier(0, 2)", x.carrier(0, 2), -1);
        due("carrier(0, -1)", x.carrier(0, -1), -1);
        due("carrier(MAX, 0)", x.carrier(MAX, 0), -1);
    }

    private static void hires() {
        start(5, "");
        for (int k = 0; k < 6; k++) {
            x.keep(2, 1, k + 2, 9 - k);
            due("hires(2)", x.hires(2), k);
        }
        for (int k = 0; k < 6; k++) {
            due("carrier(" + k + ", 0)", x.carrier(k, 0), k + 2);
            due("carrier(" + k + ", 1)", x.carrier(k, 1), 9 - k);
        }
        due("a seventh", x.hires(2), -2);
        due("he stays on the shelf", x.wage(2), 0);
        due("count(2)", x.count(2), 6);
        due("hires(3)", x.hires(3), -11);
        x.row(3, 0, 0);
        due("hires(3) of a row", x.hires(3), -12);
        due("hires(8)", x.hires(8), -1);
        due("hires(-1)", x.hires(-1), -1);
        x.keep(2, 1, 0, 0);
        due("a hired one is not changed by the shelf", x.carrier(5, 0), 7);
        start(5, "");
        x.keep(1, 1, 3, 1);
        due("hires(1)", x.hires(1), 0);
        due("hires(1) again", x.hires(1), 1);
    }

    private static void nicks() {
        start(6, "r011;r011;");
        for (int good = 0; good < 4; good++) {
            due("smooth none", x.nick(1, good, 0), 0);
            due("cut", x.nick(1, good, 1), 1);
            due("cut again", x.nick(1, good, 1), 0);
            due("road(1, 3)", x.road(1, 3), (2 << good) - 1);
        }
        due("road(0, 3)", x.road(0, 3), 0);
        due("smooth", x.nick(1, 2, 0), 1);
        due("road(1, 3)", x.road(1, 3), 11);
        int[][] refused = {{2, 0, 1}, {-1, 0, 1}, {0, 4, 1}, {0, -1, 1}, {0, 0, 2}, {0, 0, -1}, {MAX, 0, 1}, {0, MIN, 0}};
        for (int[] r : refused) due("nick not as told", x.nick(r[0], r[1], r[2]), -1);
        due("count(3)", x.count(3), 3);
    }

    // ---- ways

    private static void dueWay(int carrier, int good, int a, int b, int... want) {
        for (int what = 0; what < 3; what++) {
            due("way(" + carrier + ", " + good + ", " + a + ", " + b + ", " + what + ")",
                    x.way(carrier, good, a, b, what), want.length == 1 ? want[0] : want[what]);
        }
    }

    private static void waysByKind() {
        start(7, DIAMOND + "c00;c10;c20;c30;c44;c50;");
        dueWay(0, 0, 0, 3, 10, 1, 9);
        dueWay(1, 0, 0, 3, 20, 2, 2);
        dueWay(2, 0, 0, 3, 28, 2, 2);
        dueWay(3, 0, 0, 3, 10, 1, 9);
        dueWay(4, 0, 0, 3, 20, 2, 2);
        dueWay(5, 0, 0, 3, 10, 1, 9);
        x.nick(0, 3, 1);
        dueWay(2, 0, 0, 3, 27, 2, 2);
        dueWay(1, 3, 0, 3, 40, 2, 4);
        dueWay(5, 3, 1, 0, 10, 1, 1);
        x.nick(4, 0, 1);
        dueWay(0, 0, 0, 3, 20, 2, 2);
        dueWay(3, 0, 0, 3, 10, 1, 9);
        x.nick(4, 1, 1);
        dueWay(3, 0, 0, 3, 20, 2, 2);
        dueWay(4, 1, 0, 3, 20, 2, 2);
        dueWay(4, 1, 3, 2, 10, 1, 2);
        start(7, DIAMOND + "c60;c70;c71;c72;c79;c44;");
        dueWay(0, 0, 0, 3, 19, 1, 9);
        dueWay(1, 0, 0, 3, -4);
        dueWay(2, 0, 0, 3, 90, 1, 9);
        dueWay(3, 0, 0, 3, 20, 2, 2);
        dueWay(4, 0, 1, 2, 30, 2, 3);
        x.nick(4, 2, 1);
        dueWay(0, 0, 0, 3, 22, 2, 2);
        dueWay(0, 3, 0, 3, 19, 1, 9);
        x.nick(4, 3, 1);
        dueWay(2, 3, 0, 3, -4);
        start(7, "r011;c40;");
        dueWay(0, 0, 0, 1, 100, 1, 1);
    }

    private static void waysOnceMore() {
        start(7, "p3;r011;r121;c31;c34;c32;c61;");
        x.nick(1, 3, 1);
        dueWay(0, 3, 0, 2, 20, 2, 2);
        dueWay(1, 3, 0, 2, 20, 2, 2);
        dueWay(2, 3, 0, 2, -4);
        dueWay(2, 2, 0, 2, 20, 2, 2);
        dueWay(0, 2, 1, 2, -4);
        x.nick(1, 1, 1);
        dueWay(3, 3, 0, 2, -4);
        dueWay(3, 1, 0, 2, -4);
        dueWay(3, 1, 0, 1, 11, 1, 1);
        read("p5;");
        dueWay(1, 3, 0, 2, -4);
        start(7, "p3;r011;r021;c31;");
        x.nick(1, 0, 1);
        dueWay(0, 0, 0, 2, -4);
        due("no coming back to where he set out", x.way(0, 0, 0, 2, 1), -4);
        int[][] refused = {
            {1, 0, 0, 1, 0}, {-1, 0, 0, 1, 0}, {0, 4, 0, 1, 0}, {0, -1, 0, 1, 0}, {0, 0, 3, 1, 0}, {0, 0, -1, 1, 0},
            {0, 0, 0, 3, 0}, {0, 0, 0, -1, 0}, {0, 0, 1, 1, 0}, {0, 0, 0, 1, 3}, {0, 0, 0, 1, -1}, {0, 0, 0, 2, 3},
        };
        for (int[] r : refused) due("way not as told", x.way(r[0], r[1], r[2], r[3], r[4]), -1);
    }

    private static void steps() {
        start(8, DIAMOND + "c00;c10;");
        due("step(0, 0, 0, 3, 0)", x.step(0, 0, 0, 3, 0), 4);
        due("step(0, 0, 0, 3, 1)", x.step(0, 0, 0, 3, 1), -4);
        due("step(1, 0, 3, 0, 0)", x.step(1, 0, 3, 0, 0), 1);
        due("step(1, 0, 3, 0, 1)", x.step(1, 0, 3, 0, 1), 0);
        due("step(1, 0, 3, 0, 2)", x.step(1, 0, 3, 0, 2), -4);
        due("step(1, 0, 3, 0, MAX)", x.step(1, 0, 3, 0, MAX), -4);
        x.nick(4, 0, 1);
        due("of several the first", x.step(0, 0, 0, 3, 0), 0);
        due("of several the first", x.step(0, 0, 0, 3, 1), 1);
        due("of several the first", x.step(0, 0, 1, 2, 0), 0);
        due("of several the first", x.step(0, 0, 1, 2, 1), 2);
        int[][] refused = {
            {2, 0, 0, 1, 0}, {-1, 0, 0, 1, 0}, {0, 4, 0, 1, 0}, {0, -1, 0, 1, 0}, {0, 0, 4, 1, 0},
            {0, 0, 0, 4, 0}, {0, 0, 1, 1, 0}, {0, 0, 0, 3, -1}, {0, 0, 0, 3, MIN},
        };
        for (int[] r : refused) due("step not as told", x.step(r[0], r[1], r[2], r[3], r[4]), -1);
        for (int r = 0; r < 4; r++) x.nick(r, 0, 1);
        due("no way", x.step(0, 0, 0, 3, 0), -4);
        start(8, "p3;r123;r011;r011;r021;c00;c10;");
        due("the first of equal ways", x.step(0, 0, 0, 1, 0), 1);
        due("by roads, not by their number", x.step(1, 0, 2, 1, 0), 3);
        start(8, "p3;r011;r121;r022;c10;");
        due("0 1 goes ahead of 2", x.step(0, 0, 0, 2, 0), 0);
        due("0 1 goes ahead of 2", x.step(0, 0, 0, 2, 1), 1);
        start(8, "p3;r022;r011;r121;c10;");
        due("0 goes ahead of 1 2", x.step(0, 0, 0, 2, 0), 0);
    }

    private static void dueNicks(int... want) {
        for (int r = 0; r < want.length; r++) due("road(" + r + ", 3)", x.road(r, 3), want[r]);
    }

    private static void goes() {
        start(9, DIAMOND + "c00;c20;c71;c79;");
        due("go(0, 1, 0, 3)", x.go(0, 1, 0, 3), 9);
        due("go(0, 1, 0, 3)", x.go(0, 1, 0, 3), 2);
        due("go(1, 1, 0, 3)", x.go(1, 1, 0, 3), 4);
        dueNicks(2, 2, 2, 2, 2);
        due("no way any more", x.go(0, 1, 0, 3), -3);
        due("another good", x.go(3, 0, 3, 0), 2);
        dueNicks(3, 3, 2, 2, 2);
        due("no road told is enough", x.go(2, 0, 1, 2), -3);
        start(9, "p3;r011;r121;c31;c34;c61;");
        due("go(0, 3, 0, 2)", x.go(0, 3, 0, 2), 2);
        dueNicks(8, 1);
        due("go(1, 1, 0, 2)", x.go(1, 1, 0, 2), 2);
        dueNicks(10, 5);
        due("go(1, 1, 2, 0)", x.go(1, 1, 2, 0), 2);
        dueNicks(14, 7);
        start(9, "p3;r011;r121;c61;c50;c51;");
        due("go(0, 3, 0, 2)", x.go(0, 3, 0, 2), 2);
        dueNicks(9, 3);
        due("by ferry", x.go(1, 3, 0, 2), 2);
        dueNicks(9, 11);
        due("by ferry again", x.go(1, 3, 0, 1), 1);
        due("no ferry there", x.go(2, 3, 0, 2), -3);
        dueNicks(9, 11);
        start(9, "p3;r011;r121;c50;c51;c53;");
        due("by ferry, then along a road", x.go(0, 1, 0, 2), 2);
        dueNicks(0, 2);
        due("along a road, then by ferry", x.go(1, 1, 0, 2), 2);
        dueNicks(2, 2);
        due("by a ferry that isn't there", x.go(2, 0, 0, 2), 2);
        dueNicks(3, 3);
        start(9, "p6;r011;r122;r233;r344;r455;" + "c00;c74;c65;");
        due("too far for one who is told", x.go(1, 0, 0, 5), -3);
        due("five roads", x.go(0, 0, 0, 5), 15);
        due("five roads back, by the mill where he sets out", x.go(2, 0, 5, 0), 15);
        dueNicks(7, 7, 7, 7, 7);
        start(9, "p3;r011;r121;c00;c00;c00;");
        x.nick(0, 0, 1);
        x.nick(1, 3, 1);
        int[][] refused = {
            {3, 0, 0, 1}, {-1, 0, 0, 1}, {0, 4, 0, 1}, {0, -1, 0, 1}, {0, 0, 3, 1}, {0, 0, -1, 1}, {0, 0, 0, 3},
            {0, 0, 0, -1}, {0, 0, 2, 2},
        };
        for (int[] r : refused) due("go not as told", x.go(r[0], r[1], r[2], r[3]), -1);
        dueNicks(1, 8);
    }

    private static void far() {
        start(10, DIAMOND);
        due("far(0, 0, 3)", x.far(0, 0, 3), 2);
        due("far(0, 2, 1)", x.far(0, 2, 1), 3);
        x.nick(1, 0, 1);
        due("far(0, 0, 3)", x.far(0, 0, 3), 4);
        due("far(1, 0, 3)", x.far(1, 0, 3), 2);
        x.nick(3, 0, 1);
        due("far(0, 3, 0)", x.far(0, 3, 0), 9);
        x.nick(4, 0, 1);
        due("far(0, 3, 0)", x.far(0, 3, 0), -4);
        due("far(0, 1, 2)", x.far(0, 1, 2), 3);
        start(10, "p6;r019;r129;r239;r349;r459;");
        due("far(0, 0, 5)", x.far(0, 0, 5), 45);
        due("far(0, 5, 0)", x.far(0, 5, 0), 45);
        int[][] refused = {{4, 0, 1}, {-1, 0, 1}, {0, 6, 1}, {0, -1, 1}, {0, 0, 6}, {0, 0, MIN}, {0, 1, 1}};
        for (int[] r : refused) due("far not as told", x.far(r[0], r[1], r[2]), -1);
    }

    private static void many() {
        start(11, DIAMOND);
        due("many(0, 0, 3, 0)", x.many(0, 0, 3, 0), 3);
        due("many(0, 0, 3, 1)", x.many(0, 0, 3, 1), 1);
        due("many(0, 3, 0, 1)", x.many(0, 3, 0, 1), 8);
        due("many(0, 1, 2, 0)", x.many(0, 1, 2, 0), 2);
        due("many(0, 1, 2, 1)", x.many(0, 1, 2, 1), 2);
        x.nick(1, 0, 1);
        due("many(0, 0, 3, 0)", x.many(0, 0, 3, 0), 2);
        due("many(0, 0, 3, 1)", x.many(0, 0, 3, 1), 3);
        due("many(1, 0, 3, 0)", x.many(1, 0, 3, 0), 3);
        x.nick(3, 0, 1);
        x.nick(4, 0, 1);
        due("many(0, 0, 3, 0)", x.many(0, 0, 3, 0), 0);
        due("many(0, 0, 3, 1)", x.many(0, 0, 3, 1), 7);
        due("many(0, 3, 0, 1)", x.many(0, 3, 0, 1), 8);
        start(11, "p4;r011;r011;r121;r121;r121;r231;");
        due("the least bits", x.many(0, 0, 2, 1), 1);
        due("all behind the two roads", x.many(0, 2, 0, 1), 14);
        due("one more place goes along", x.many(0, 3, 0, 1), 8);
        start(11, "r011;r011;r011;r011;r011;r011;r011;r011;r011;");
        due("nine", x.many(3, 1, 0, 0), 9);
        int[][] refused = {
            {4, 0, 1, 0}, {-1, 0, 1, 0}, {0, 2, 1, 0}, {0, -1, 1, 0}, {0, 0, 2, 0}, {0, 0, MAX, 0}, {0, 0, 0, 0},
            {0, 0, 1, 2}, {0, 0, 1, -1},
        };
        for (int[] r : refused) due("many not as told", x.many(r[0], r[1], r[2], r[3]), -1);
    }

    private static void dueServed(int good, int a, int villages, int howMany, int which) {
        due("served(" + good + ", " + a + ", " + villages + ", 0)", x.served(good, a, villages, 0), howMany);
        due("served(" + good + ", " + a + ", " + villages + ", 1)", x.served(good, a, villages, 1), which);
    }

    private static void served() {
        start(12, "p5;r011;r121;r131;");
        dueServed(0, 0, 14, 1, 2);
        dueServed(0, 0, 12, 1, 4);
        dueServed(0, 0, 30, 1, 2);
        dueServed(0, 0, 16, 0, 0);
        dueServed(0, 0, 0, 0, 0);
        dueServed(0, 1, 13, 3, 13);
        read("r011;");
        dueServed(0, 0, 14, 2, 6);
        dueServed(0, 0, 12, 2, 12);
        x.nick(1, 2, 1);
        dueServed(2, 0, 14, 2, 10);
        dueServed(2, 0, 4, 0, 0);
        dueServed(0, 0, 4, 1, 4);
        start(12, DIAMOND);
        dueServed(0, 0, 14, 3, 14);
        dueServed(0, 1, 13, 2, 5);
        int[][] refused = {
            {4, 0, 2, 0}, {-1, 0, 2, 0}, {0, 4, 2, 0}, {0, -1, 2, 0}, {0, 0, 16, 0}, {0, 0, -1, 0}, {0, 0, MIN, 0},
            {0, 0, 1, 0}, {0, 3, 15, 0}, {0, 0, 2, 2}, {0, 0, 2, -1}, {0, MAX, 2, 0},
        };
        for (int[] r : refused) due("served not as told", x.served(r[0], r[1], r[2], r[3]), -1);
    }

    // ---- spite, worth, new roads, rounds

    private static void spite() {
        start(13, "p4;r011;r011;r121;r231;");
        due("spite(0, 0, 2, 0)", x.spite(0, 0, 2, 0), 2);
        due("spite(0, 0, 2, 1)", x.spite(0, 0, 2, 1), 0);
        due("spite(0, 0, 1, 0)", x.spite(0, 0, 1, 0), 0);
        due("spite(0, 0, 1, 1)", x.spite(0, 0, 1, 1), 1);
        x.nick(0, 0, 1);
        due("spite(0, 0, 1, 0)", x.spite(0, 0, 1, 0), 1);
        due("spite(0, 0, 1, 1)", x.spite(0, 0, 1, 1), 0);
        due("spite(0, 0, 2, 0)", x.spite(0, 0, 2, 0), 1);
        due("spite(1, 0, 2, 0)", x.spite(1, 0, 2, 0), 2);
        due("count(3)", x.count(3), 1);
        for (int r = 1; r < 3; r++) x.nick(r, 0, 1);
        due("no way now, yet a road", x.spite(0, 0, 2, 0), 3);
        due("no way now, yet a road", x.spite(0, 0, 2, 1), 0);
        x.nick(3, 0, 1);
        due("no road without nick", x.spite(0, 0, 2, 0), -4);
        due("no road without nick", x.spite(0, 0, 2, 1), -4);
        int[][] refused = {
            {4, 0, 1, 0}, {-1, 0, 1, 0}, {0, 4, 1, 0}, {0, -1, 1, 0}, {0, 0, 4, 0}, {0, 0, -1, 0}, {0, 1, 1, 0},
            {0, 0, 1, 2}, {0, 0, 1, -1},
        };
        for (int[] r : refused) due("spite not as told", x.spite(r[0], r[1], r[2], r[3]), -1);
    }

    private static void worth() {
        start(14, DIAMOND);
        due("worth(0, 0, 0, 3)", x.worth(0, 0, 0, 3), 2);
        due("worth(1, 0, 0, 3)", x.worth(1, 0, 0, 3), 2);
        due("worth(2, 0, 0, 3)", x.worth(2, 0, 0, 3), 0);
        due("worth(4, 0, 0, 3)", x.worth(4, 0, 0, 3), 0);
        due("count(3)", x.count(3), 0);
        x.nick(2, 0, 1);
        due("worth(0, 0, 0, 3)", x.worth(0, 0, 0, 3), 7);
        due("worth(0, 1, 0, 3)", x.worth(0, 1, 0, 3), 2);
        due("nicked already", x.worth(2, 0, 0, 3), 0);
        x.nick(4, 0, 1);
        due("no way then", x.worth(0, 0, 0, 3), 99);
        due("another road there", x.worth(3, 0, 0, 3), 0);
        x.nick(0, 0, 1);
        due("no way now", x.worth(1, 0, 0, 3), 0);
        int[][] refused = {
            {5, 0, 0, 1}, {-1, 0, 0, 1}, {0, 4, 0, 1}, {0, -1, 0, 1}, {0, 0, 4, 1}, {0, 0, -1, 1}, {0, 0, 0, 4},
            {0, 0, 0, -1}, {0, 0, 1, 1}, {MAX, 0, 0, 1},
        };
        for (int[] r : refused) due("worth not as told", x.worth(r[0], r[1], r[2], r[3]), -1);
    }

    private static void newly() {
        start(15, "p4;r011;r121;r121;");
        due("newly(0, 0, 2, 0)", x.newly(0, 0, 2, 0), 1);
        due("newly(0, 0, 2, 1)", x.newly(0, 0, 2, 1), 2);
        due("newly(0, 2, 3, 0)", x.newly(0, 2, 3, 0), 3);
        due("newly(0, 2, 3, 1)", x.newly(0, 2, 3, 1), 1);
        x.nick(1, 0, 1);
        due("newly(0, 2, 0, 0)", x.newly(0, 2, 0, 0), 2);
        due("newly(0, 2, 0, 1)", x.newly(0, 2, 0, 1), 2);
        due("newly(1, 2, 0, 0)", x.newly(1, 2, 0, 0), 1);
        x.nick(0, 0, 1);
        due("newly(0, 1, 0, 0)", x.newly(0, 1, 0, 0), 1);
        due("newly(0, 1, 0, 1)", x.newly(0, 1, 0, 1), 1);
        due("newly(0, 1, 3, 0)", x.newly(0, 1, 3, 0), 13);
        due("count(1)", x.count(1), 3);
        start(15, "r011;".repeat(9));
        due("in a land without room", x.newly(0, 1, 0, 0), 1);
        due("in a land without room", x.newly(0, 1, 0, 1), 10);
        int[][] refused = {
            {4, 0, 1, 0}, {-1, 0, 1, 0}, {0, 2, 1, 0}, {0, -1, 1, 0}, {0, 0, 2, 0}, {0, 0, -1, 0}, {0, 1, 1, 0},
            {0, 0, 1, 2}, {0, 0, 1, -1},
        };
        for (int[] r : refused) due("newly not as told", x.newly(r[0], r[1], r[2], r[3]), -1);
    }

    private static void round() {
        start(16, DIAMOND);
        due("round(0, 0)", x.round(0, 0), 6);
        due("round(0, 1)", x.round(0, 1), 6);
        x.nick(2, 0, 1);
        due("round(0, 0)", x.round(0, 0), 11);
        due("round(0, 2)", x.round(0, 2), -4);
        due("round(1, 2)", x.round(1, 2), 6);
        x.nick(0, 0, 1);
        due("round(0, 0)", x.round(0, 0), -4);
        start(16, "p3;r011;r011;r025;r021;");
        due("the first round found is the least", x.round(0, 0), 2);
        start(16, "p3;r025;r021;r011;r011;");
        due("a later one is the least", x.round(0, 0), 2);
        start(16, "p3;r012;r127;");
        due("not the same road twice", x.round(0, 0), -4);
        read("r013;");
        due("two roads between two", x.round(0, 0), 5);
        due("two roads between two", x.round(0, 1), 5);
        due("not by a round elsewhere", x.round(0, 2), -4);
        int[][] refused = {{4, 0}, {-1, 0}, {0, 3}, {0, -1}, {MIN, 0}, {0, MAX}};
        for (int[] r : refused) due("round not as told", x.round(r[0], r[1]), -1);
    }

    // ---- carriages

    private static void often() {
        start(17, DIAMOND + "c00;c54;c71;c30;c60;");
        due("often(0, 0, 0, 3)", x.often(0, 0, 0, 3), 3);
        due("often(1, 0, 0, 3)", x.often(1, 0, 0, 3), 9);
        due("often(2, 0, 0, 3)", x.often(2, 0, 0, 3), 1);
        due("often(2, 0, 1, 2)", x.often(2, 0, 1, 2), 0);
        due("often(3, 0, 3, 0)", x.often(3, 0, 3, 0), 3);
        due("often(4, 0, 3, 0)", x.often(4, 0, 3, 0), 3);
        due("in mind", x.count(3), 0);
        start(17, "r011;".repeat(9) + "c00;");
        due("nine times", x.often(0, 0, 0, 1), 9);
        x.nick(5, 0, 1);
        due("eight times", x.often(0, 0, 0, 1), 8);
        int[][] refused = {
            {1, 0, 0, 1}, {-1, 0, 0, 1}, {0, 4, 0, 1}, {0, -1, 0, 1}, {0, 0, 2, 1}, {0, 0, -1, 1}, {0, 0, 0, 2},
            {0, 0, 0, -1}, {0, 0, 1, 1},
        };
        for (int[] r : refused) due("often not as told", x.often(r[0], r[1], r[2], r[3]), -1);
    }

    private static void dueRowOfCarriages(boolean isRun) {
        int[][] untold = {
            {0}, {0, 0, 0}, {0, 0, 0, 1, 0}, {1, 0, 0, 1}, {-1, 0, 0, 1}, {0, 4, 0, 1}, {0, -1, 0, 1}, {0, 0, 4, 1},
            {0, 0, 0, 4}, {0, 0, -1, 1}, {0, 0, 1, 1}, {0, 0, 0, 1, 0, 0, 2, 2}, new int[24],
        };
        for (int[] told : untold) {
            tell(0, 0, told);
            if (told.length == 24) for (int i = 3; i < 24; i += 4) x.put(0, i, 1);
            due("carriages not as told", isRun ? x.run(0, 0) : x.orders(0, 0), -13);
        }
        tell(0, 1, 0, 0, 0, 1);
        due("shorts", isRun ? x.run(0, 0) : x.orders(0, 0), -12);
        due("what goes ahead", isRun ? x.run(0, 2) : x.orders(0, 2), -1);
        x.keep(0, 1, 0, 0);
        due("a carrier", isRun ? x.run(0, 1) : x.orders(0, 1), -12);
        x.keep(0, 0, 0, 0);
        due("nothing", isRun ? x.run(0, 1) : x.orders(0, 1), -11);
        due("what goes ahead", isRun ? x.run(0, -1) : x.orders(0, -1), -1);
        due("no such shelf", isRun ? x.run(8, 0) : x.orders(8, 0), -1);
        due("no such shelf", isRun ? x.run(-1, 0) : x.orders(-1, 0), -1);
    }

    private static void run() {
        start(18, "p4;r011;r121;r025;c00;");
        tell(1, 0, 0, 0, 0, 2, 0, 0, 0, 2, 0, 0, 0, 1, 0, 0, 0, 3, 0, 1, 0, 2);
        due("run(1, 0)", x.run(1, 0), 3);
        due("run(1, 1)", x.run(1, 1), 12);
        due("the row stays", x.element(1, 3), 2);
        due("in mind", x.count(3), 0);
        x.nick(2, 0, 1);
        due("run(1, 0)", x.run(1, 0), 2);
        due("run(1, 1)", x.run(1, 1), 7);
        x.row(1, 0, 0);
        due("no carriages", x.run(1, 0), 0);
        due("no carriages", x.run(1, 1), 0);
        dueRowOfCarriages(true);
    }

    private static void orders() {
        start(19, "p4;r011;r121;r025;c10;");
        tell(1, 0, 0, 0, 0, 2, 0, 0, 0, 1);
        due("orders(1, 0)", x.orders(1, 0), 1);
        due("orders(1, 1)", x.orders(1, 1), 6);
        tell(1, 0, 0, 0, 0, 2, 0, 1, 0, 2);
        due("orders(1, 0)", x.orders(1, 0), 2);
        due("orders(1, 1)", x.orders(1, 1), 4);
        tell(1, 0, 0, 0, 0, 2, 0, 0, 0, 2, 0, 1, 0, 2);
        due("alike ones count by their places", x.orders(1, 0), 6);
        due("alike ones", x.orders(1, 1), 9);
        tell(1, 0, 0, 0, 0, 2, 0, 0, 0, 2, 0, 0, 0, 2);
        due("none", x.orders(1, 0), 0);
        due("none", x.orders(1, 1), -4);
        tell(1, 0, 0, 0, 0, 1, 0, 1, 0, 1, 0, 2, 0, 1, 0, 3, 0, 1, 0, 0, 1, 2);
        due("five", x.orders(1, 0), 120);
        due("five", x.orders(1, 1), 5);
        due("in mind", x.count(3), 0);
        x.row(1, 0, 0);
        due("no carriages", x.orders(1, 0), 1);
        due("no carriages", x.orders(1, 1), 0);
        start(19, "r011;r011;c00;");
        tell(1, 0, 0, 0, 0, 1);
        due("one", x.orders(1, 0), 1);
        x.nick(0, 0, 1);
        x.nick(1, 0, 1);
        due("as things stand now", x.orders(1, 0), 0);
        start(19, "p3;r011;r019;r121;c10;c00;");
        tell(1, 0, 0, 0, 0, 1, 1, 0, 0, 2);
        due("the orders differ in miles", x.orders(1, 0), 2);
        due("the least of them", x.orders(1, 1), 11);
        start(19, "p4;r011;r121;r025;c10;");
        dueRowOfCarriages(false);
    }

    private static void seeded() {
        start(20, "");
        due("n goes ahead", x.seeded(0, 7), -1);
        due("no carriers", x.seeded(1, 7), -3);
        start(20, DIAMOND + "c00;c11;c55;c79;");
        due("seeded(0, 1)", x.seeded(0, 1), -1);
        due("seeded(31, 1)", x.seeded(31, 1), -1);
        due("seeded(-1, 1)", x.seeded(-1, 1), -1);
        due("seeded(MIN, 1)", x.seeded(MIN, 1), -1);
        int[] seeds = {0, 1, 7, -1, 12345, MAX, MIN, -99999};
        for (int z : seeds) {
            for (int n = 1; n <= 30; n++) {
                start(20, DIAMOND + "c00;c11;c55;c79;");
                int got = x.seeded(n, z);
                due("in mind", x.count(3), 0);
                due("seeded(" + n + ", " + z + ")", got, seededByHand(n, z));
            }
        }
    }

    /** The CARRIAGES are drawn here and gone along one behind the other, in the land itself. */
    private static int seededByHand(int n, int seed) {
        int gone = 0;
        int z = seed;
        int[] below = {x.count(2), 4, x.count(0), x.count(0)};
        for (int i = 0; i < n; i++) {
            int[] drawn = new int[4];
            for (int k = 0; k < 4; k++) {
                z = z * 1103515245 + 12345;
                drawn[k] = (z & MAX) / 65536 % below[k];
            }
            if (x.go(drawn[0], drawn[1], drawn[2], drawn[3]) > 0) gone++;
        }
        return gone;
    }

    private static void judge() {
        start(21, "r011;r011;u02;");
        tell(0, 0);
        due("nothing told", x.judge(0), -4);
        int[][] told = {
            {0, 0, 0, 1, 1, 0}, {0, 0, 0, 0}, {0, 2}, {0, 3, 1, 3, 0, 3}, {2, 0}, {0, 0, 2, 9}, {0, 4}, {0, -1}, {-1, 0},
            {0}, {2}, {0, 0, 1}, {0, 0, 1, 2, 0, 0, 1}, {1, 2, 1, 0},
        };
        int[] want = {-4, 3, 1, 5, 0, 2, 1, 1, 0, 0, 0, 2, 5, -4};
        for (int sort = 0; sort < 3; sort++) {
            for (int i = 0; i < told.length; i++) {
                tell(0, sort, told[i]);
                due("judge of " + java.util.Arrays.toString(told[i]), x.judge(0), want[i]);
            }
        }
        due("in mind", x.count(3), 1);
        tell(0, 2, 65536, 0);
        due("an int is not cut", x.judge(0), 0);
        due("judge(8)", x.judge(8), -1);
        due("judge(-1)", x.judge(-1), -1);
        due("judge(1)", x.judge(1), -11);
        x.keep(1, 1, 0, 0);
        due("judge of a carrier", x.judge(1), -12);
    }

    // ---- the image, what is told

    private static void image() {
        start(22, "p3;r011;r122;u03;c25;");
        due("restore()", x.restore(), -3);
        due("image()", x.image(), 2);
        read("p5;r344;c00;");
        x.nick(0, 3, 0);
        x.nick(1, 1, 1);
        x.keep(2, 1, 1, 1);
        promise = 23;
        due("restore()", x.restore(), 2);
        int[] want = {3, 2, 1, 1, 3};
        for (int what = 0; what < 5; what++) due("count(" + what + ")", x.count(what), want[what]);
        due("road(0, 3)", x.road(0, 3), 8);
        due("road(1, 3)", x.road(1, 3), 0);
        due("carrier(0, 0)", x.carrier(0, 0), 2);
        due("carrier(1, 0)", x.carrier(1, 0), -1);
        due("the shelves stay", x.wage(2), 4);
        due("the text stays", x.element(TEXT_SHELF, 1), '5');
        read("r019;");
        due("restore() again", x.restore(), 2);
        read("r019;");
        promise = 22;
        due("image() again", x.image(), 3);
        x.nick(2, 0, 1);
        due("restore()", x.restore(), 3);
        due("road(2, 3)", x.road(2, 3), 0);
        start(22, "");
        due("image() of a new one", x.image(), 0);
        read("p6;r011;c00;");
        due("restore()", x.restore(), 0);
        due("count(0)", x.count(0), 2);
        due("count(2)", x.count(2), 0);
    }

    private static void count() {
        start(24, "p6;r019;r129;r231;c00;c00;u00;u03;u23;");
        int[] want = {6, 3, 2, 3, 19};
        for (int what = 0; what < 5; what++) due("count(" + what + ")", x.count(what), want[what]);
        for (int what : new int[] {-1, 5, MAX, MIN}) due("count(" + what + ")", x.count(what), -1);
        start(24, "r019;".repeat(9));
        for (int r = 0; r < 9; r++) for (int good = 0; good < 4; good++) x.nick(r, good, 1);
        due("all nicks", x.count(3), 36);
        due("all miles", x.count(4), 81);
    }

    // ---- shelves

    private static void keep() {
        start(25, "");
        due("keep(0, 1, 7, 9)", x.keep(0, 1, 7, 9), 0);
        due("wage(0)", x.wage(0), -5);
        due("keep(7, 1, 0, 0)", x.keep(7, 1, 0, 0), 0);
        due("wage(7)", x.wage(7), 5);
        int[][] refused = {
            {8, 1, 0, 0}, {-1, 1, 0, 0}, {0, 2, 0, 0}, {0, -1, 0, 0}, {0, 1, 8, 0}, {0, 1, -1, 0}, {0, 1, 0, 10},
            {0, 1, 0, -1}, {8, 0, 0, 0}, {MIN, 0, 0, 0}, {0, MAX, 0, 0},
        };
        for (int[] r : refused) due("keep not as told", x.keep(r[0], r[1], r[2], r[3]), -1);
        due("wage(0) is as it was", x.wage(0), -5);
        due("the others do not matter", x.keep(0, 0, -1, MAX), 0);
        due("wage(0)", x.wage(0), -11);
        x.row(1, 2, 3);
        x.keep(1, 1, 1, 0);
        due("a carrier in a row's place", x.put(1, 0, 0), -12);
        x.row(1, 2, 3);
        x.keep(1, 0, 0, 0);
        due("nothing in a row's place", x.put(1, 0, 0), -11);
    }

    private static void row() {
        start(26, "");
        due("row(0, 0, 0)", x.row(0, 0, 0), 0);
        due("no elements", thrownBy(0, 0), 2);
        due("row(7, 2, 100)", x.row(7, 2, 100), 0);
        due("element(7, 99)", x.element(7, 99), 0);
        x.put(7, 99, 5);
        x.put(7, 0, 6);
        int[][] refused = {{8, 0, 1}, {-1, 0, 1}, {7, 3, 1}, {7, -1, 1}, {7, 0, 101}, {7, 0, MAX}, {8, 0, -1}, {7, 3, -1}};
        for (int[] r : refused) due("row not as told", x.row(r[0], r[1], r[2]), -1);
        due("row(7, 0, -1)", x.row(7, 0, -1), -14);
        due("row(7, 0, MIN)", x.row(7, 0, MIN), -14);
        due("the row is as it was", x.element(7, 99), 5);
        x.row(7, 2, 100);
        due("0 at first", x.element(7, 99), 0);
        due("0 at first", x.element(7, 0), 0);
        x.keep(7, 1, 0, 0);
        x.row(7, 0, 1);
        due("a row in a carrier's place", x.wage(7), -12);
    }

    private static void put() {
        start(27, "");
        int[] values = {0, 127, 128, 255, 256, 32767, 32768, 65535, 65536, MAX, MIN, -1, -129, -32769};
        for (int sort = 0; sort < 3; sort++) {
            x.row(sort, sort, 100);
            for (int v : values) {
                due("put(" + sort + ", 99, " + v + ")", x.put(sort, 99, v), 0);
                due("element(" + sort + ", 99)", x.element(sort, 99), sort == 0 ? (byte) v : sort == 1 ? (short) v : v);
            }
            due("element 98", x.element(sort, 98), 0);
        }
        x.row(3, 2, 2);
        for (int i : new int[] {2, -1, 99, 100, MAX, MIN}) due("put at " + i, x.put(3, i, 1), -13);
        due("put(4, 0, 0)", x.put(4, 0, 0), -11);
        x.keep(4, 1, 0, 0);
        due("put to a carrier", x.put(4, -1, 0), -12);
        due("put(8, 0, 0)", x.put(8, 0, 0), -1);
        due("put(-1, 0, 0)", x.put(-1, 0, 0), -1);
    }

    private static void element() {
        start(28, "");
        tell(0, 2, 8, MIN);
        due("element(0, 0)", x.element(0, 0), 8);
        due("element(0, 1)", x.element(0, 1), MIN);
        int[][] thrown = {{0, 2, 2}, {0, -1, 2}, {0, MAX, 2}, {0, 0, 0}, {1, 0, 2}, {8, 0, 1}, {-1, 0, 1}, {MIN, -1, 1}};
        for (int[] t : thrown) due("element(" + t[0] + ", " + t[1] + ") throws", thrownBy(t[0], t[1]), t[2]);
        x.keep(1, 1, 0, 0);
        due("element of a carrier throws", thrownBy(1, 0), 2);
    }

    private static void copy() {
        start(29, "");
        tell(0, 2, 1, 2, 3, 4, 5);
        tell(1, 2, 6, 7);
        due("copy(0, 1, 1, 0, 2)", x.copy(0, 1, 1, 0, 2), 2);
        due("element(1, 0)", x.element(1, 0), 2);
        due("element(1, 1)", x.element(1, 1), 3);
        due("element(0, 1)", x.element(0, 1), 2);
        due("onto itself, forwards", x.copy(0, 0, 0, 1, 4), 4);
        int[] forwards = {1, 1, 2, 3, 4};
        for (int i = 0; i < 5; i++) due("element(0, " + i + ")", x.element(0, i), forwards[i]);
        due("onto itself, backwards", x.copy(0, 2, 0, 0, 3), 3);
        int[] backwards = {2, 3, 4, 3, 4};
        for (int i = 0; i < 5; i++) due("element(0, " + i + ")", x.element(0, i), backwards[i]);
        due("none at the end", x.copy(0, 5, 1, 2, 0), 0);
        int[][] notThere = {
            {4, 0, 2}, {0, 1, 2}, {0, 0, 3}, {-1, 0, 1}, {0, -1, 1}, {0, 0, -1}, {6, 0, 0}, {0, 3, 0}, {MAX, 0, 1},
            {0, MAX, 1}, {0, 0, MAX}, {MAX, MAX, MAX}, {MIN, 0, 1}, {0, 0, MIN},
        };
        for (int[] r : notThere) due("copy of what isn't there", x.copy(0, r[0], 1, r[1], r[2]), -13);
        due("element(1, 0) is as it was", x.element(1, 0), 2);
        x.row(2, 1, 5);
        x.keep(3, 1, 0, 0);
        due("another sort", x.copy(0, 0, 2, 0, 9), -12);
        due("from a carrier", x.copy(3, 0, 0, 0, 1), -12);
        due("to a carrier", x.copy(0, 0, 3, 0, 1), -12);
        x.row(4, 2, 5);
        x.keep(4, 1, 0, 0);
        due("from a carrier in such a row's place", x.copy(4, 0, 0, 0, 1), -12);
        due("to a carrier in such a row's place", x.copy(0, 0, 4, 0, 1), -12);
        x.keep(4, 0, 0, 0);
        due("from nothing", x.copy(4, 0, 3, 0, 1), -11);
        due("to nothing", x.copy(3, 0, 4, 0, -1), -11);
        int[][] noShelf = {{8, 0}, {-1, 0}, {0, 8}, {0, -1}, {8, 4}, {4, 8}};
        for (int[] r : noShelf) due("no such shelf", x.copy(r[0], 0, r[1], 0, 1), -1);
    }

    private static void wage() {
        start(30, "");
        int[] at0 = {5, 4, 4, 5, 5, 15, 10, 4};
        int[] at9 = {5, 4, 13, 23, 5, 15, 46, -5};
        for (int kind = 0; kind < 8; kind++) {
            x.keep(0, 1, kind, 0);
            due("wage of kind " + kind + ", figure 0", x.wage(0), at0[kind]);
            x.keep(0, 1, kind, 9);
            due("wage of kind " + kind + ", figure 9", x.wage(0), at9[kind]);
        }
        due("he stays", x.wage(0), -5);
        dueNoCarrier(true);
    }

    private static void dueNoCarrier(boolean isWage) {
        due("no such shelf", isWage ? x.wage(8) : x.toss(8), -1);
        due("no such shelf", isWage ? x.wage(-1) : x.toss(-1), -1);
        due("nothing", isWage ? x.wage(5) : x.toss(5), -11);
        x.row(5, 0, 4);
        due("a row", isWage ? x.wage(5) : x.toss(5), -12);
    }

    private static void toss() {
        start(31, "");
        int[] at1 = {1, 1, 101, 1, 1, -15, 214, 1};
        int[] at9 = {9, 9, 109, 9, 9, -15, 246, 9};
        for (int kind = 0; kind < 8; kind++) {
            x.keep(0, 1, kind, 0);
            due("toss of kind " + kind + ", figure 0", x.toss(0), -15);
            x.keep(0, 1, kind, 1);
            due("toss of kind " + kind + ", figure 1", x.toss(0), at1[kind]);
            x.keep(0, 1, kind, 9);
            due("toss of kind " + kind + ", figure 9", x.toss(0), at9[kind]);
        }
        due("he stays", x.toss(0), 9);
        dueNoCarrier(false);
    }
}
