/** Each sentence of the document that names a boundary, one behind the other, with what is at it and on both sides. */
public final class EdgesTest {
    private static final int MAX = Lands.MAX;
    private static final int MIN = Lands.MIN;
    /** Each letter with its digits and its ; all of it well told in this order. */
    private static final String ALL_STATEMENTS = "p3;r014;r129;u01;c29;g0202;p6;";
    private static final Due DUE = new Due("EdgesTest");

    public static void main(String[] args) {
        places();
        roads();
        milesAndNicks();
        carriers();
        waysComeToNoPlaceTwice();
        loadsOfMillsAndMixed();
        ferriesAndRounds();
        weights();
        told();
        firstOfSeveral();
        wagesAndFailures();
        shelvesAndRows();
        lowestBits();
        statements();
        landsThatEndTooEarly();
        everyByteAtEveryPlace();
        faultsInTheirOrder();
        nothingOrAllOfIt();
        farAndRound();
        manyAndBars();
        served();
        spiteAndWorth();
        newly();
        often();
        runsAndOrders();
        seeds();
        judged();
        images();
        copies();
        fiveHundredAndTwelveCalls();
        DUE.end();
    }

    // ---- terms 1

    private static void places() {
        DUE.by("PLACES 0 .. 5 (2 .. 6 of them; 2 at first)");
        DUE.is("count(0) of a new one", new OncePerRoad().count(0), 2);
        for (int before = 2; before <= 6; before++) {
            for (int n = 0; n < 10; n++) {
                OncePerRoad x = Lands.of("p" + before + ";");
                boolean comes = n >= before && n <= 6;
                DUE.is(n + " behind " + before, Lands.read(x, "p" + n + ";"), comes ? 1 : -2000);
                DUE.is("places behind that", x.count(0), comes ? n : before);
            }
        }
        for (int n = 2; n <= 6; n++) {
            OncePerRoad x = Lands.of("p" + n + ";r0" + (n - 1) + "1;c00;");
            DUE.is("the last place is there", x.go(0, 0, 0, n - 1), 1);
            DUE.is("none behind it", Lands.read(x, "r0" + n + "1;"), -2000);
            DUE.is("none behind it", x.far(1, 0, n), -1);
        }
    }

    private static void roads() {
        DUE.by("ROADS 0 .. 8 as they come, each between two unlike PLACES (several between two)");
        OncePerRoad x = Lands.of("p6;");
        for (int r = 0; r < 9; r++) {
            DUE.is("not there yet", x.road(r, 0), -1);
            DUE.is("a road more", Lands.read(x, "r" + r % 6 + (r + 1) % 6 + (9 - r) + ";"), 1);
            DUE.is("its place as told", x.road(r, 0), r % 6);
            DUE.is("its other place as told", x.road(r, 1), (r + 1) % 6);
            DUE.is("its miles", x.road(r, 2), 9 - r);
        }
        DUE.is("a tenth", Lands.read(x, "r011;"), -2000);
        DUE.is("nine stay", x.count(1), 9);
        DUE.is("road(9, 0)", x.road(9, 0), -1);
        DUE.is("ten at once", Lands.read(new OncePerRoad(), "r011;".repeat(10)), -2045);
        DUE.is("nine between two", Lands.read(new OncePerRoad(), "r011;r101;r011;".repeat(3)), 9);
        for (int p = 0; p < 6; p++) DUE.is("from a place to it", Lands.read(Lands.of("p6;"), "r" + p + p + "1;"), -2000);
    }

    private static void milesAndNicks() {
        DUE.by("MILES (1 .. 9) and NICKS (none at first) of GOODS 0 .. 3");
        for (int miles = 0; miles < 10; miles++) {
            OncePerRoad x = new OncePerRoad();
            DUE.is("r01" + miles, Lands.read(x, "r01" + miles + ";"), miles == 0 ? -2000 : 1);
            DUE.is("its miles", x.road(0, 2), miles == 0 ? -1 : miles);
            DUE.is("its nicks", x.road(0, 3), miles == 0 ? -1 : 0);
        }
        for (int good = 0; good < 10; good++) {
            OncePerRoad x = Lands.of("r011;r011;");
            DUE.is("u1" + good, Lands.read(x, "u1" + good + ";"), good > 3 ? -2000 : 1);
            DUE.is("its nicks", x.road(1, 3), good > 3 ? 0 : 1 << good);
            DUE.is("there already", Lands.read(x, "u1" + good + ";"), -2000);
            DUE.is("none on the other one", x.road(0, 3), 0);
            DUE.is("a road that isn't there", Lands.read(x, "u20;"), -2000);
        }
        OncePerRoad x = Lands.of("r011;".repeat(9));
        for (int i = 0; i < 36; i++) {
            DUE.is("cut", x.nick(i / 4, i % 4, 1), 1);
            DUE.is("cut already", x.nick(i / 4, i % 4, 1), 0);
            DUE.is("all nicks", x.count(3), i + 1);
        }
        for (int i = 0; i < 36; i++) {
            DUE.is("smoothed", x.nick(i / 4, i % 4, 0), 1);
            DUE.is("smoothed already", x.nick(i / 4, i % 4, 0), 0);
            DUE.is("all nicks", x.count(3), 35 - i);
        }
    }

    private static void carriers() {
        DUE.by("CARRIERS 0 .. 5 as they come, of KINDS 0 .. 7: a FIGURE (0 .. 9)");
        for (int kind = 0; kind < 10; kind++) {
            for (int figure = 0; figure < 10; figure++) {
                OncePerRoad x = new OncePerRoad();
                DUE.is("c" + kind + figure, Lands.read(x, "c" + kind + figure + ";"), kind > 7 ? -2000 : 1);
                DUE.is("his kind", x.carrier(0, 0), kind > 7 ? -1 : kind);
                DUE.is("his figure", x.carrier(0, 1), kind > 7 ? -1 : figure);
                DUE.is("kept", x.keep(0, 1, kind, figure), kind > 7 ? -1 : 0);
                DUE.is("hired", x.hires(0), kind > 7 ? -11 : 1);
                DUE.is("his kind", x.carrier(1, 0), kind > 7 ? -1 : kind);
                DUE.is("his figure", x.carrier(1, 1), kind > 7 ? -1 : figure);
            }
        }
        for (int n = 0; n <= 6; n++) {
            OncePerRoad x = n == 0 ? new OncePerRoad() : Lands.of("c34;".repeat(n));
            x.keep(0, 1, 5, 6);
            DUE.is("hired as one more", x.hires(0), n == 6 ? -2 : n);
            DUE.is("he stays on the shelf", x.wage(0), 15);
            DUE.is("a seventh by a land", Lands.read(x, "c00;".repeat(6 - n) + "c00;"), -2000 - 4 * Math.max(0, 5 - n));
            DUE.is("how many", x.count(2), Math.min(6, n + 1));
        }
    }

    private static void waysComeToNoPlaceTwice() {
        DUE.by("a WAY is ROADS by which no PLACE is come to twice");
        OncePerRoad line = Lands.of("p6;r011;r121;r231;r341;r451;c00;");
        DUE.is("by all places", line.way(0, 0, 0, 5, 1), 5);
        DUE.is("by all places", line.step(0, 0, 5, 0, 4), 0);
        DUE.is("none behind the last one", line.step(0, 0, 5, 0, 5), -4);
        OncePerRoad backAndForth = Lands.of("p3;r011;r021;r011;c31;");
        backAndForth.nick(1, 0, 1);
        DUE.is("not back by where he set out, to come with what is milled", backAndForth.way(0, 0, 0, 2, 0), -4);
        OncePerRoad byGoal = Lands.of("p4;r011;r121;r131;c33;");
        byGoal.nick(1, 0, 1);
        DUE.is("not back by a place, to come with what is milled", byGoal.way(0, 0, 0, 2, 0), -4);
    }

    /** Along a line of PLACES each ROAD is tried with each NICK, then all is gone. */
    private static void loadsOfMillsAndMixed() {
        DUE.by("MILL g, but (g and 1) modulo 4 behind PLACE (FIGURE modulo PLACES); MIXED one more, too");
        for (int kind = 3; kind <= 6; kind += 3) {
            for (int places = 2; places <= 6; places++) {
                for (int i = 0; i < 80; i++) lineWithMill(kind, places, i / 8, i / 2 % 4, i % 2 == 1);
            }
        }
    }

    private static void lineWithMill(int kind, int places, int figure, int good, boolean isBack) {
        StringBuilder text = new StringBuilder("p" + places + ";c" + kind + figure + ";");
        for (int r = 0; r + 1 < places; r++) text.append('r').append(r).append(r + 1).append("1;");
        OncePerRoad x = Lands.of(text.toString());
        int mill = figure % places;
        int a = isBack ? places - 1 : 0;
        int[] due = new int[places - 1];
        for (int r = 0; r + 1 < places; r++) {
            boolean isMilled = isBack ? mill > r : mill <= r;
            int load = isMilled ? (good + 1) % 4 : good;
            due[r] = 1 << load | (kind == 6 ? 1 << (load + 1) % 4 : 0);
            for (int other = 0; other < 4; other++) {
                x.nick(r, other, 1);
                boolean isBarred = (due[r] & 1 << other) != 0;
                int weight = (kind == 6 ? 11 : 10) * (places - 1);
                DUE.is("way by " + text + " with " + good, x.way(0, good, a, places - 1 - a, 0), isBarred ? -4 : weight);
                x.nick(r, other, 0);
            }
        }
        DUE.is("go by " + text + " with " + good, x.go(0, good, a, places - 1 - a), places - 1);
        for (int r = 0; r + 1 < places; r++) DUE.is("nicks of road " + r + " by " + text, x.road(r, 3), due[r]);
    }

    private static void ferriesAndRounds() {
        DUE.by("FERRY along ROAD FIGURE in any case, leaves none there; ROUND 90 more of ROAD FIGURE");
        for (int roads = 1; roads <= 9; roads++) {
            for (int figure = 0; figure < 10; figure++) {
                OncePerRoad x = Lands.of("r017;".repeat(roads) + "c5" + figure + ";c4" + figure + ";");
                boolean isThere = figure < roads;
                boolean isFirst = figure == 0;
                DUE.is("round the road", x.way(1, 2, 0, 1, 0), isFirst && roads == 1 ? 100 : 10);
                DUE.is("round the road", x.step(1, 2, 0, 1, 0), isFirst && roads > 1 ? 1 : 0);
                DUE.is("as often as there are roads, or by the ferry", x.often(0, 2, 0, 1), isThere ? 9 : roads);
                for (int r = 0; r < roads; r++) x.nick(r, 2, 1);
                DUE.is("by ferry alone", x.go(0, 2, 0, 1), isThere ? 7 : -3);
                DUE.is("with another good", x.step(0, 1, 0, 1, 0), 0);
                DUE.is("with another good", x.go(0, 1, 0, 1), 7);
                DUE.is("what is left", x.count(3), isFirst ? roads : roads + 1);
            }
        }
    }

    private static void weights() {
        DUE.by("WEIGHT of a ROAD for him");
        for (int kind = 0; kind < 8; kind++) {
            for (int figure = 0; figure < 2; figure++) {
                for (int miles = 1; miles < 10; miles++) weightsByNicks(kind, figure, miles);
            }
        }
    }

    private static void weightsByNicks(int kind, int figure, int miles) {
        OncePerRoad x = Lands.of("r01" + miles + ";c" + kind + figure + ";");
        for (int i = 0; i < 32; i++) {
            int nicks = i / 2;
            int a = i % 2;
            for (int good = 0; good < 4; good++) x.nick(0, good, nicks >> good & 1);
            int main = (kind == 3 || kind == 6) && figure == a ? 2 : 1;
            int loads = 1 << main | (kind == 6 ? 2 << main : 0);
            boolean isFerry = kind == 5 && figure == 0;
            boolean mayGo = (isFerry || (nicks & loads) == 0) && (kind != 7 || figure > 0);
            int[] due = {
                10, 10 * miles, 10 * miles + 4 - Integer.bitCount(nicks), 10, figure == 0 ? 100 : 10, 10, 10 + miles, 10 * miles,
            };
            String call = "way from " + a + " of kind " + kind + ", figure " + figure + ", " + miles + " miles, nicks " + nicks;
            DUE.is(call, x.way(0, 1, a, 1 - a, 0), mayGo ? due[kind] : -4);
            DUE.is(call, x.way(0, 1, a, 1 - a, 2), mayGo ? miles : -4);
        }
    }

    private static void told() {
        DUE.by("TOLD of no more than FIGURE ROADS");
        for (int figure = 0; figure < 10; figure++) {
            OncePerRoad x = Lands.of("p6;r011;r121;r231;r341;r451;r059;c7" + figure + ";");
            for (int b = 1; b < 5; b++) {
                boolean isNearer = b <= figure;
                int byEnd = 6 - b;
                int due = isNearer ? b : byEnd <= figure ? 9 + 5 - b : -4;
                DUE.is("told " + figure + ", to " + b, x.way(0, 0, 0, b, 2), due);
            }
            DUE.is("told " + figure + ", to 5", x.way(0, 0, 0, 5, 1), figure > 4 ? 5 : figure > 0 ? 1 : -4);
            DUE.is("told " + figure + ", goes to 5", x.go(0, 0, 0, 5), figure > 4 ? 5 : figure > 0 ? 9 : -3);
        }
    }

    private static void firstOfSeveral() {
        DUE.by("of several the first (by their ROADS, one behind the other)");
        OncePerRoad x = Lands.of("p4;r211;r021;r131;r231;r011;c00;c10;");
        for (int c = 0; c < 2; c++) {
            DUE.is("1 3 goes ahead of 4 2", x.step(c, 0, 0, 3, 0), 1);
            DUE.is("1 3 goes ahead of 4 2", x.step(c, 0, 0, 3, 1), 3);
            DUE.is("2 4 goes ahead of 3 1", x.step(c, 0, 3, 0, 0), 2);
            DUE.is("2 4 goes ahead of 3 1", x.step(c, 0, 3, 0, 1), 4);
        }
        OncePerRoad alike = Lands.of("p3;r012;r011;r121;r011;r121;c10;c00;");
        DUE.is("the first of the least", alike.step(0, 0, 0, 2, 0), 1);
        DUE.is("the first of the least", alike.step(0, 0, 0, 2, 1), 2);
        DUE.is("the first of all", alike.step(1, 0, 0, 2, 0), 0);
        alike.nick(2, 0, 1);
        DUE.is("the first that may", alike.step(0, 0, 0, 2, 1), 4);
    }

    private static void wagesAndFailures() {
        DUE.by("WAGE; FAILURE");
        for (int kind = 0; kind < 8; kind++) {
            for (int figure = 0; figure < 10; figure++) {
                OncePerRoad x = new OncePerRoad();
                x.keep(7, 1, kind, figure);
                int[] wage = {5, 5 - 1, 5 - 1 + figure, 5 + 2 * figure, 5, 3 * 5, (5 + 2 * figure) * 2, 5 - 1 - figure};
                DUE.is("wage of " + kind + ", " + figure, x.wage(7), wage[kind]);
                int failure = kind == 2 ? 100 + figure : kind == 6 ? 200 + wage[6] : figure;
                DUE.is("toss of " + kind + ", " + figure, x.toss(7), figure == 0 || kind == 5 ? -15 : failure);
                DUE.is("toss once more", x.toss(7), figure == 0 || kind == 5 ? -15 : failure);
                DUE.is("he stays", x.wage(7), wage[kind]);
            }
        }
    }

    // ---- shelves

    private static void shelvesAndRows() {
        DUE.by("SHELVES 0 .. 7 hold nothing at first; a ROW has 0 .. 100 elements, 0 at first");
        OncePerRoad x = new OncePerRoad();
        for (int d = 0; d < 8; d++) {
            DUE.is("toss(" + d + ")", x.toss(d), -11);
            DUE.is("judge(" + d + ")", x.judge(d), -11);
            DUE.is("run(" + d + ", 0)", x.run(d, 0), -11);
        }
        for (int n : new int[] {0, 1, 99, 100}) {
            for (int sort = 0; sort < 3; sort++) {
                OncePerRoad y = new OncePerRoad();
                DUE.is("row of " + n, y.row(sort, sort, n), 0);
                DUE.is("put behind the last", y.put(sort, n, 7), -13);
                DUE.is("put to the last", y.put(sort, n - 1, 7), n == 0 ? -13 : 0);
                for (int i = 0; i + 1 < n; i++) DUE.is("0 at first", y.element(sort, i), 0);
                DUE.is("the last", Lands.answer(y, "element", sort, n - 1), n == 0 ? Lands.NO_SUCH_ELEMENT : 7);
                DUE.is("none behind it", Lands.answer(y, "element", sort, n), Lands.NO_SUCH_ELEMENT);
                DUE.is("row of " + n + " anew", y.row(sort, 2 - sort, n), 0);
                if (n > 0) DUE.is("0 again", y.element(sort, n - 1), 0);
                DUE.is("row of 101", y.row(sort, sort, 101), -1);
                DUE.is("row of -1", y.row(sort, sort, -1), -14);
            }
        }
        for (int d = 0; d < 8; d++) {
            DUE.is("a carrier", x.keep(d, 1, 1, 0), 0);
            DUE.is("his wage", x.wage(d), 4);
            DUE.is("a row in his place", x.row(d, 1, 1), 0);
            DUE.is("no carrier any more", x.wage(d), -12);
            DUE.is("nothing in its place", x.keep(d, 0, MIN, MAX), 0);
            DUE.is("no row any more", x.put(d, 0, 0), -11);
            DUE.is("nothing in place of nothing", x.keep(d, 0, 0, 0), 0);
            DUE.is("nothing", x.judge(d), -11);
        }
        OncePerRoad shrunk = new OncePerRoad();
        Lands.tell(shrunk, 0, 2, 5, 6, 7);
        shrunk.row(0, 2, 1);
        DUE.is("a smaller one has no second element", Lands.answer(shrunk, "element", 0, 1), Lands.NO_SUCH_ELEMENT);
        shrunk.row(0, 2, 3);
        DUE.is("and nothing of the old one comes back", shrunk.element(0, 2), 0);
    }

    private static void lowestBits() {
        DUE.by("what is put in keeps its lowest bits");
        int[] put = {-129, -128, -1, 0, 127, 128, 255, 256, -32769, -32768, 32767, 32768, 65535, 65536, MIN, MAX};
        int[] asByte = {127, -128, -1, 0, 127, -128, -1, 0, -1, 0, -1, 0, -1, 0, 0, -1};
        int[] asShort = {-129, -128, -1, 0, 127, 128, 255, 256, 32767, -32768, 32767, -32768, -1, 0, 0, -1};
        OncePerRoad x = new OncePerRoad();
        for (int sort = 0; sort < 3; sort++) {
            x.row(sort, sort, 1);
            for (int i = 0; i < put.length; i++) {
                x.put(sort, 0, put[i]);
                int due = sort == 0 ? asByte[i] : sort == 1 ? asShort[i] : put[i];
                DUE.is(put[i] + " in a row of sort " + sort, x.element(sort, 0), due);
            }
        }
        OncePerRoad y = new OncePerRoad();
        Lands.tell(y, 0, 0, 'p' + 256, '6' - 256, ';' + 512);
        DUE.is("bytes that wrap around are a text", y.land(0), 1);
        DUE.is("six places", y.count(0), 6);
        Lands.tell(y, 0, 0, 'r' + 65536, '0', '1' + 256, '9', ';', 'c', '0', '0', ';');
        DUE.is("bytes that wrap around are a text", y.land(0), 2);
        Lands.tell(y, 0, 0, 256, 65536 + 3, -256, 257);
        DUE.is("bytes that wrap around are carriages", y.run(0, 1), 9);
        DUE.is("bytes that wrap around are carriages", y.orders(0, 1), 9);
        for (int sort = 0; sort < 3; sort++) {
            Lands.tell(y, 1, sort, 256, 65536, 0, 65536 + 256);
            int due = sort == 0 ? 3 : 0;
            DUE.is("bytes and shorts that wrap around are judged", y.judge(1), due);
        }
        Lands.tell(y, 1, 1, 65536, -65536, 0, 65537);
        DUE.is("shorts that wrap around are judged", y.judge(1), -4);
    }

    // ---- terms 2

    private static void statements() {
        DUE.by("A LAND is read from bytes: at least one STATEMENT");
        DUE.is("none", Lands.read(new OncePerRoad(), ""), -1000);
        DUE.is("seven", Lands.read(new OncePerRoad(), ALL_STATEMENTS), 7);
        DUE.is("as many as have room", Lands.read(new OncePerRoad(), "c00;" + "p2;".repeat(32)), 33);
        DUE.is("one byte too many", Lands.read(new OncePerRoad(), "p2;".repeat(33) + "p"), -1100);
        DUE.is("a ; that has no room", Lands.read(new OncePerRoad(), "c00;c00;" + "p2;".repeat(29) + "g0001"), -1100);
    }

    private static void landsThatEndTooEarly() {
        DUE.by("the size, if it ends too early");
        int statements = 0;
        for (int size = 0; size <= ALL_STATEMENTS.length(); size++) {
            String text = ALL_STATEMENTS.substring(0, size);
            boolean isWhole = text.endsWith(";");
            if (isWhole) statements++;
            OncePerRoad x = new OncePerRoad();
            DUE.is("land of " + text, Lands.read(x, text), isWhole ? statements : -1000 - size);
            DUE.is("places by " + text, x.count(0), isWhole ? statements == 7 ? 6 : 3 : 2);
        }
    }

    private static void everyByteAtEveryPlace() {
        DUE.by("the place of the first byte with which no LAND can go on");
        String due = "lds" + "ldddsldddslddslddsldddds" + "lds";
        for (int i = 0; i < ALL_STATEMENTS.length(); i++) {
            for (int sign = -128; sign < 128; sign++) {
                boolean isDigit = sign >= '0' && sign <= '9';
                boolean isLetter = sign >= 0 && "prucg".indexOf(sign) >= 0;
                char wanted = due.charAt(i);
                boolean goesOn = wanted == 'l' ? isLetter : wanted == 'd' ? isDigit : sign == ';';
                int answer = withByte(i, sign);
                if (!goesOn) DUE.is("byte " + sign + " at " + i, answer, -1000 - i);
                else DUE.same("byte " + sign + " at " + i + " goes on", String.valueOf(answer != -1000 - i), "true");
            }
        }
    }

    private static int withByte(int i, int sign) {
        OncePerRoad x = new OncePerRoad();
        int[] bytes = ALL_STATEMENTS.chars().toArray();
        bytes[i] = sign;
        Lands.tell(x, 3, 0, bytes);
        return x.land(3);
    }

    private static void dueFault(String text, int fault) {
        OncePerRoad x = Lands.of("p3;r014;r122;c10;u03;");
        x.image();
        DUE.is("land of " + text, Lands.read(x, text), fault);
        OncePerRoad twin = Lands.of("p3;r014;r122;c10;u03;");
        twin.image();
        Lands.tell(twin, Lands.TEXT_SHELF, 0, text.chars().toArray());
        DUE.same("a look behind " + text, Lands.look(x), Lands.look(twin));
    }

    private static void faultsInTheirOrder() {
        DUE.by("kind 1 (of any place) goes ahead of kind 2");
        dueFault("p1;x", -1003);
        dueFault("p7;p6", -1005);
        dueFault("r000;u99;c99;g9999;p9;p", -1023);
        dueFault("p4;;", -1003);
        DUE.by("else kind 2 the place of the letter of the first STATEMENT that isn't as told");
        dueFault("p1;p0;", -2000);
        dueFault("p4;p3;p2;", -2003);
        dueFault("p4;r030;p2;", -2003);
        dueFault("p4;r034;u30;", -2008);
        dueFault("p4;r034;r044;", -2008);
        dueFault("u03;", -2000);
        dueFault("u00;u00;", -2004);
        dueFault("u00;c11;u03;", -2008);
        dueFault("g0002;g0002;", -2006);
        dueFault("g0302;", -2000);
        dueFault("g0312;g0000;", -2006);
        dueFault("g0012;g1012;", -2006);
        dueFault("g0412;", -2000);
        dueFault("g0013;p4;", -2000);
        dueFault("p4;g0013;", -2003);
        dueFault("c70;g1012;", -2004);
        dueFault("c00;c00;c00;c00;c00;c00;", -2020);
        dueFault("r011;r011;r011;r011;r011;r011;r011;r011;", -2035);
        DUE.by("each on what those ahead of it made");
        String[] made = {
            "p4;r034;", "r014;u20;", "c50;g1302;", "r011;g0001;g0001;", "c50;g1301;g1301;", "p4;r231;g0003;", "r021;u23;c73;g1320;",
        };
        int[] whole = {2, 2, 2, 3, 3, 3, -2013};
        for (int i = 0; i < made.length; i++) {
            OncePerRoad x = Lands.of("p3;r014;r122;c10;u03;");
            DUE.is("land of " + made[i], Lands.read(x, made[i]), whole[i]);
        }
    }

    private static void nothingOrAllOfIt() {
        DUE.by("without FAULT all of it comes; with one nothing; the ROW that is read stays there");
        OncePerRoad x = new OncePerRoad();
        DUE.is("with a fault at its end", Lands.read(x, ALL_STATEMENTS + "p5;"), -2000 - ALL_STATEMENTS.length());
        for (int what = 0; what < 5; what++) DUE.is("count(" + what + ")", x.count(what), what == 0 ? 2 : 0);
        DUE.is("without", Lands.read(x, ALL_STATEMENTS), 7);
        int[] want = {6, 2, 1, 3, 13};
        for (int what = 0; what < 5; what++) DUE.is("count(" + what + ")", x.count(what), want[what]);
        DUE.is("nicks by u and g", x.road(0, 3), 6);
        DUE.is("nicks by g", x.road(1, 3), 4);
        for (int i = 0; i < ALL_STATEMENTS.length(); i++) {
            DUE.is("element " + i, x.element(Lands.TEXT_SHELF, i), ALL_STATEMENTS.charAt(i));
        }
        DUE.is("read once more, it has fewer places than there are", x.land(Lands.TEXT_SHELF), -2000);
    }

    // ---- terms 3

    private static void farAndRound() {
        DUE.by("FAR; -4. ROUND: no ROAD twice, two ROADS at least; -4");
        OncePerRoad x = Lands.of("p6;r019;r129;r239;r349;r459;r509;");
        DUE.is("far, half round", x.far(0, 0, 3), 27);
        DUE.is("round, by all places", x.round(0, 0), 54);
        DUE.is("round, from the last place", x.round(0, 5), 54);
        x.nick(5, 0, 1);
        DUE.is("far, the other way", x.far(0, 0, 5), 45);
        DUE.is("far back", x.far(0, 5, 0), 45);
        DUE.is("no round", x.round(0, 3), -4);
        DUE.is("another good's round", x.round(1, 3), 54);
        x.nick(2, 0, 1);
        DUE.is("no way", x.far(0, 0, 5), -4);
        DUE.is("to the end of what there is", x.far(0, 0, 2), 18);
        for (int good = 0; good < 4; good++) {
            OncePerRoad two = Lands.of("r012;r013;r015;");
            DUE.is("there and back", two.round(good, 0), 5);
            two.nick(0, good, 1);
            DUE.is("there and back", two.round(good, 1), 8);
            two.nick(2, good, 1);
            DUE.is("one road is no round", two.round(good, 0), -4);
            DUE.is("one road is far", two.far(good, 0, 1), 3);
            two.nick(1, good, 1);
            DUE.is("no road is no round", two.round(good, 0), -4);
        }
        OncePerRoad tail = Lands.of("p5;r011;r121;r231;r311;");
        DUE.is("no other place twice", tail.round(0, 0), -4);
        DUE.is("round behind the tail", tail.round(0, 1), 3);
        DUE.is("a place without roads", tail.round(0, 4), -4);
        OncePerRoad nine = Lands.of("p6;r011;r122;r233;r344;r455;r506;r027;r138;r249;");
        DUE.is("far, with nine roads", nine.far(0, 0, 5), 6);
        DUE.is("round, with nine roads", nine.round(0, 0), 10);
        DUE.is("round by the ninth", nine.round(0, 4), 16);
        DUE.is("worth, with nine roads", nine.worth(5, 0, 0, 5), 9);
        DUE.is("worth of the ninth", nine.worth(8, 0, 2, 4), 0);
        nine.nick(2, 0, 1);
        DUE.is("far by the ninth", nine.far(0, 2, 4), 9);
        DUE.is("worth of the ninth", nine.worth(8, 0, 2, 4), 5);
    }

    private static void manyAndBars() {
        DUE.by("MANY (none .. nine); BARS: of several the least as bits");
        for (int roads = 0; roads <= 9; roads++) {
            OncePerRoad x = roads == 0 ? new OncePerRoad() : Lands.of("r011;".repeat(roads));
            for (int cut = 0; cut <= roads; cut++) {
                DUE.is("many of " + roads, x.many(3, 0, 1, 0), roads - cut);
                DUE.is("many back", x.many(3, 1, 0, 0), roads - cut);
                DUE.is("bars of " + roads, x.many(3, 0, 1, 1), 1);
                DUE.is("bars back", x.many(3, 1, 0, 1), 2);
                if (cut < roads) x.nick(cut, 3, 1);
            }
        }
        for (int a = 0; a < 6; a++) {
            for (int b = 0; b < 6; b++) {
                if (a == b) continue;
                DUE.is("without roads", Lands.of("p6;").many(0, a, b, 1), 1 << a);
                OncePerRoad line = Lands.of("p6;r011;r121;r231;r341;r451;");
                DUE.is("along a line", line.many(0, a, b, 0), 1);
                // forth the place itself is enough; back, what lies behind it must not lead out as well
                int due = a < b ? (1 << a + 1) - 1 : 63 & -(1 << a);
                DUE.is("bars along a line", line.many(0, a, b, 1), due);
            }
        }
        OncePerRoad late = Lands.of("p4;r011;r021;r131;r231;r031;");
        DUE.is("three ways share no road", late.many(0, 0, 3, 0), 3);
        late.nick(2, 0, 1);
        DUE.is("bars with the place that leads no farther", late.many(0, 0, 3, 1), 3);
        late.nick(3, 0, 1);
        DUE.is("bars with all of these", late.many(0, 0, 3, 1), 7);
    }

    private static void served() {
        DUE.by("SERVED: the most, of several such sets the least as bits");
        for (int roads = 0; roads <= 5; roads++) {
            OncePerRoad x = Lands.of("p6;" + "r011;".repeat(roads) + "r121;r131;r141;r151;");
            for (int villages = 0; villages < 64; villages += 2) {
                int left = Math.min(roads, Integer.bitCount(villages));
                int due = 0;
                for (int p = 1; left > 0; p++) {
                    if ((villages & 1 << p) != 0) {
                        due |= 1 << p;
                        left--;
                    }
                }
                DUE.is("served of " + villages + " by " + roads, x.served(2, 0, villages, 1), due);
                DUE.is("served of " + villages + " by " + roads, x.served(2, 0, villages, 0), Integer.bitCount(due));
            }
        }
        OncePerRoad x = Lands.of("p6;r011;r021;r031;r041;r051;");
        DUE.is("all", x.served(0, 0, 62, 0), 5);
        DUE.is("all", x.served(0, 0, 62, 1), 62);
        x.nick(0, 0, 1);
        DUE.is("all but one", x.served(0, 0, 62, 1), 60);
        DUE.is("only one road to each of the others", x.served(0, 5, 31, 1), 1);
        DUE.is("no villages", x.served(0, 0, 0, 0), 0);
        DUE.is("no villages", x.served(0, 0, 0, 1), 0);
    }

    private static void spiteAndWorth() {
        DUE.by("SPITE: of several the least; -4 there is none; MANY then");
        for (int roads = 1; roads <= 9; roads++) {
            OncePerRoad x = Lands.of("r011;".repeat(roads));
            for (int cut = 0; cut <= roads; cut++) {
                DUE.is("the first without nick", x.spite(1, 0, 1, 0), cut == roads ? -4 : cut);
                DUE.is("many then", x.spite(1, 1, 0, 1), cut == roads ? -4 : roads - cut - 1);
                if (cut < roads) x.nick(cut, 1, 1);
            }
            DUE.is("another good's", x.spite(0, 0, 1, 0), 0);
        }
        OncePerRoad aside = Lands.of("p4;r231;r011;");
        DUE.is("the one that harms", aside.spite(0, 0, 1, 0), 1);
        DUE.is("none harms: the least", aside.spite(0, 0, 2, 0), 0);
        DUE.is("none harms: many then", aside.spite(0, 0, 2, 1), 0);
        aside.nick(0, 0, 1);
        DUE.is("none harms: the least without nick", aside.spite(0, 0, 2, 0), 1);
        DUE.by("WORTH: 99 if there were no WAY; 0 if there is none now");
        OncePerRoad x = Lands.of("p6;r011;r019;r129;r239;r349;r459;");
        DUE.is("eight more", x.worth(0, 0, 0, 1), 8);
        DUE.is("not on the least way", x.worth(1, 0, 0, 1), 0);
        DUE.is("no way then", x.worth(5, 0, 0, 5), 99);
        x.nick(1, 0, 1);
        DUE.is("it has a nick of it already", x.worth(1, 0, 0, 1), 0);
        DUE.is("no way then", x.worth(0, 0, 0, 5), 99);
        x.nick(5, 0, 1);
        DUE.is("none now", x.worth(5, 0, 0, 5), 0);
        DUE.is("none now", x.worth(0, 0, 0, 5), 0);
        OncePerRoad longest = Lands.of("p6;r019;r129;r239;r349;r459;r051;");
        DUE.is("44 more", longest.worth(5, 0, 0, 5), 44);
    }

    private static void newly() {
        DUE.by("NEWLY: of several the least; MANY then");
        for (int a = 0; a < 6; a++) {
            for (int b = 0; b < 6; b++) {
                if (a == b) continue;
                OncePerRoad x = Lands.of("p6;");
                DUE.is("without roads", x.newly(3, a, b, 0), 10 * Math.min(a, b) + Math.max(a, b));
                DUE.is("many then", x.newly(3, a, b, 1), 1);
            }
        }
        OncePerRoad x = Lands.of("p4;r011;r231;r231;r131;");
        DUE.is("the one that makes it more", x.newly(0, 0, 2, 0), 2);
        DUE.is("two then", x.newly(0, 0, 2, 1), 2);
        OncePerRoad no = Lands.of("p4;r121;r121;r031;");
        DUE.is("the least of four pairs", no.newly(0, 0, 1, 0), 1);
        DUE.is("the least of them, between others", no.newly(0, 3, 2, 0), 1);
        OncePerRoad useless = Lands.of("p5;r011;r011;r121;r341;r341;r341;");
        DUE.is("a road that makes it more, of several the least", useless.newly(0, 0, 2, 0), 2);
        DUE.is("two islands", useless.newly(0, 0, 4, 0), 3);
        DUE.is("the first pair between two islands", Lands.of("p6;r011;r121;r341;r451;").newly(0, 2, 5, 0), 3);
        OncePerRoad full = Lands.of("r011;".repeat(9));
        DUE.is("a road more, where there is no room for one", full.newly(0, 1, 0, 1), 10);
    }

    private static void often() {
        DUE.by("OFTEN (9 at most)");
        for (int roads = 1; roads <= 9; roads++) {
            OncePerRoad x = Lands.of("r011;".repeat(roads) + "c00;c60;c59;c58;c70;c71;");
            int[] due = {roads, roads, roads, roads == 9 ? 9 : roads, 0, roads};
            for (int c = 0; c < 6; c++) DUE.is("often of " + c + " by " + roads, x.often(c, 0, 0, 1), due[c]);
            for (int r = 0; r < roads; r++) x.nick(r, 0, 1);
            DUE.is("no way", x.often(0, 0, 0, 1), 0);
        }
        OncePerRoad ferry = Lands.of("r011;c50;");
        DUE.is("without end, by ferry", ferry.often(0, 0, 0, 1), 9);
    }

    private static void runsAndOrders() {
        DUE.by("5 CARRIAGES at most; in how many orders (by places)");
        int[] factorial = {1, 1, 2, 6, 24, 120};
        for (int n = 0; n <= 6; n++) {
            OncePerRoad x = Lands.of("r012;".repeat(6) + "c00;");
            int[] told = new int[4 * n];
            for (int i = 3; i < told.length; i += 4) told[i] = 1;
            Lands.tell(x, 0, 0, told);
            DUE.is("run of " + n, x.run(0, 0), n > 5 ? -13 : n);
            DUE.is("miles of " + n, x.run(0, 1), n > 5 ? -13 : 2 * n);
            DUE.is("orders of " + n, x.orders(0, 0), n > 5 ? -13 : factorial[n]);
            DUE.is("least miles of " + n, x.orders(0, 1), n > 5 ? -13 : 2 * n);
            for (int size = Math.max(1, 4 * n - 3); size < 4 * n; size++) {
                x.row(0, 0, size);
                DUE.is("run of " + size + " bytes", x.run(0, 0), -13);
                DUE.is("orders of " + size + " bytes", x.orders(0, 0), -13);
            }
        }
        DUE.by("those without WAY left out; all are gone, -4 none");
        OncePerRoad x = Lands.of("p3;r013;c00;c10;");
        Lands.tell(x, 0, 0, 0, 0, 1, 2, 1, 0, 0, 1, 0, 0, 1, 0, 0, 1, 1, 0);
        DUE.is("run", x.run(0, 0), 2);
        DUE.is("miles", x.run(0, 1), 6);
        DUE.is("no order", x.orders(0, 0), 0);
        DUE.is("no least miles", x.orders(0, 1), -4);
        x.row(0, 0, 0);
        DUE.is("no carriages, one order", x.orders(0, 0), 1);
        DUE.is("no carriages, no miles", x.orders(0, 1), 0);
        OncePerRoad unlike = Lands.of("p3;r019;r019;r121;r021;c00;c10;");
        Lands.tell(unlike, 0, 0, 0, 0, 0, 1, 1, 0, 0, 1);
        DUE.is("miles as told", unlike.run(0, 1), 11);
        DUE.is("two orders", unlike.orders(0, 0), 2);
        DUE.is("miles of the first order, of the other one no fewer", unlike.orders(0, 1), 11);
        OncePerRoad goods = Lands.of("r011;c00;");
        Lands.tell(goods, 0, 0, 0, 0, 0, 1, 0, 3, 0, 1);
        DUE.is("another good", goods.run(0, 0), 2);
        DUE.is("another good", goods.orders(0, 0), 2);
        goods.nick(0, 3, 1);
        DUE.is("as things stand by now", goods.orders(0, 0), 0);
        DUE.is("as things stand by now", goods.run(0, 0), 1);
        OncePerRoad left = Lands.of("p3;r011;r121;c10;c00;");
        Lands.tell(left, 0, 0, 0, 0, 0, 2, 1, 0, 0, 1);
        DUE.is("the second one is barred by the first", left.run(0, 0), 1);
        DUE.is("the first one by the second", left.orders(0, 0), 0);
    }

    private static void seeds() {
        DUE.by("SEEDED: 1 .. 30; DRAWS: z becomes z times 1103515245 plus 12345 (an int)");
        OncePerRoad x = Lands.of("r011;".repeat(9) + "c50;");
        int[] seeds = {0, 1, 7, -1, MAX, MIN, 1 << 16, -65536};
        for (int z : seeds) {
            int gone = 0;
            for (int n = 1; n <= 30; n++) {
                long drawn = drawnPlaces(z, n);
                if (drawn / 2 != drawn % 2) gone++;
                DUE.is("seeded(" + n + ", " + z + ")", x.seeded(n, z), gone);
            }
            DUE.is("seeded(0, " + z + ")", x.seeded(0, z), -1);
            DUE.is("seeded(31, " + z + ")", x.seeded(31, z), -1);
        }
        DUE.is("in mind", x.count(3), 0);
        OncePerRoad once = Lands.of("r011;c00;");
        int[] gone = {1, 1, 2, 2, 3, 3};
        for (int i = 0; i < 12; i++) DUE.is("each time anew, " + (i % 6 + 1), once.seeded(i % 6 + 1, 0), gone[i % 6]);
        once.nick(0, 0, 1);
        DUE.is("as things stand by now", once.seeded(1, 0), 0);
        DUE.is("as things stand by now", once.seeded(6, 0), 2);
        once.nick(0, 0, 0);
        DUE.is("as things stand by now", once.seeded(6, 0), 3);
        DUE.is("no carriers", new OncePerRoad().seeded(30, 0), -3);
        DUE.is("no roads", Lands.of("c00;").seeded(30, 0), 0);
    }

    /** The two PLACES of the n-th CARRIAGE between two PLACES, as a two-digit number to the base two. */
    private static long drawnPlaces(int seed, int n) {
        long z = seed & 0xffffffffL;
        long b = 0;
        long a = 0;
        for (int i = 0; i < 4 * n; i++) {
            z = (z * 1103515245L + 12345L) % 4294967296L;
            a = b;
            b = z % 2147483648L / 65536L % 2;
        }
        return 2 * a + b;
    }

    private static void dueJudged(OncePerRoad x, int place, int... told) {
        for (int sort = 0; sort < 3; sort++) {
            Lands.tell(x, 1, sort, told);
            DUE.is("judge of " + java.util.Arrays.toString(told), x.judge(1), place);
        }
    }

    private static void judged() {
        DUE.by("JUDGED: the place of the first ... ; the place of the last, if it is alone and all ahead is so; -4");
        OncePerRoad x = Lands.of("r011;r011;u02;");
        dueJudged(x, -4);
        dueJudged(x, -4, 1, 0);
        dueJudged(x, -4, 1, 3, 0, 3, 0, 0);
        dueJudged(x, 0, 2, 0);
        dueJudged(x, 0, -1, 0);
        dueJudged(x, 0, 2, 9);
        dueJudged(x, 1, 1, 4);
        dueJudged(x, 1, 1, -1);
        dueJudged(x, 1, 0, 2);
        dueJudged(x, 3, 1, 2, 1, 2);
        dueJudged(x, 5, 1, 2, 0, 1, 1, 2);
        dueJudged(x, 0, 0);
        dueJudged(x, 0, 2);
        dueJudged(x, 2, 0, 0, 0);
        dueJudged(x, 2, 0, 0, 9);
        dueJudged(x, 1, 0, 2, 0);
        dueJudged(x, 0, 2, 0, 0);
        OncePerRoad nine = Lands.of("r011;".repeat(9));
        int[] all = new int[100];
        for (int i = 0; i < 36; i++) {
            all[2 * i] = i / 4;
            all[2 * i + 1] = i % 4;
        }
        Lands.tell(nine, 0, 2, java.util.Arrays.copyOf(all, 72));
        DUE.is("all nicks there can be", nine.judge(0), -4);
        Lands.tell(nine, 0, 2, all);
        DUE.is("one more", nine.judge(0), 73);
        Lands.tell(nine, 0, 2, java.util.Arrays.copyOf(all, 73));
        DUE.is("a road more", nine.judge(0), 72);
        DUE.is("in mind", nine.count(3), 0);
        OncePerRoad none = new OncePerRoad();
        none.row(0, 0, 0);
        DUE.is("nothing told, no roads", none.judge(0), -4);
        none.row(0, 0, 1);
        DUE.is("no roads", none.judge(0), 0);
    }

    private static void images() {
        DUE.by("THE IMAGE: all that there is, but SHELVES; RESTORED all is as it was then");
        OncePerRoad x = new OncePerRoad();
        DUE.is("there is none", x.restore(), -3);
        DUE.is("of nothing", x.image(), 0);
        DUE.is("whole", Lands.read(x, "p6;" + "r019;".repeat(9) + "c00;c11;c22;c33;c44;c55;"), 16);
        x.nick(8, 3, 1);
        DUE.is("nothing comes back", x.restore(), 0);
        int[] atFirst = {2, 0, 0, 0, 0};
        for (int what = 0; what < 5; what++) DUE.is("count(" + what + ")", x.count(what), atFirst[what]);
        DUE.is("shelves stay as they are", x.element(Lands.TEXT_SHELF, 1), '6');
        DUE.is("whole again", x.land(Lands.TEXT_SHELF), 16);
        DUE.is("of all", x.image(), 9);
        DUE.is("of all, once more", x.image(), 9);
        for (int r = 0; r < 9; r++) x.nick(r, 0, 1);
        x.keep(0, 1, 3, 3);
        for (int i = 0; i < 2; i++) {
            DUE.is("all comes back", x.restore(), 9);
            DUE.is("no nicks", x.count(3), 0);
            DUE.is("who is kept stays", x.wage(0), 11);
            x.go(0, 1, 0, 1);
        }
        DUE.is("the image isn't what became of it", x.count(3), 1);
    }

    private static void copies() {
        DUE.by("n elements of the ROW in SHELF d from i on come to that in SHELF e from j on: n");
        for (int sort = 0; sort < 3; sort++) {
            OncePerRoad x = new OncePerRoad();
            x.row(0, sort, 100);
            x.row(1, sort, 100);
            for (int i = 0; i < 100; i++) x.put(0, i, i + 1);
            DUE.is("all", x.copy(0, 0, 1, 0, 100), 100);
            DUE.is("the last", x.element(1, 99), 100);
            DUE.is("one too many", x.copy(0, 0, 1, 0, 101), -13);
            DUE.is("one too far", x.copy(0, 1, 1, 0, 100), -13);
            DUE.is("one too far", x.copy(0, 0, 1, 1, 100), -13);
            DUE.is("onto itself", x.copy(1, 0, 1, 1, 99), 99);
            for (int i = 0; i < 100; i++) DUE.is("element " + i, x.element(1, i), i == 0 ? 1 : i);
            DUE.is("onto itself, back", x.copy(1, 1, 1, 0, 99), 99);
            DUE.is("the first", x.element(1, 0), 1);
            DUE.is("the last but one", x.element(1, 98), 99);
            DUE.is("the last", x.element(1, 99), 99);
            DUE.is("none, right behind the last ones", x.copy(0, 100, 1, 100, 0), 0);
            DUE.is("none, farther on", x.copy(0, 101, 1, 0, 0), -13);
            DUE.is("none, farther on", x.copy(0, 0, 1, 101, 0), -13);
            DUE.is("the one it came from stays", x.element(0, 50), 51);
        }
    }

    private static void fiveHundredAndTwelveCalls() {
        DUE.by("an object is used for at most 512 calls");
        OncePerRoad x = Lands.of("p6;r011;r021;r121;r131;r231;r241;r341;r351;r451;c60;c50;c29;c30;c77;c44;");
        Lands.tell(x, 0, 0, 0, 1, 1, 5, 1, 0, 5, 0, 2, 0, 0, 5, 3, 3, 3, 0, 4, 1, 0, 4);
        long first = dearest(x);
        for (int i = 0; i < 100; i++) DUE.is("the same answers", dearest(x), first);
        OncePerRoad y = new OncePerRoad();
        DUE.is("the first call", y.row(0, 2, 100), 0);
        for (int call = 2; call < 512; call++) y.put(0, call % 100, call);
        DUE.is("the 512th call", y.element(0, 11), 511);
        OncePerRoad z = new OncePerRoad();
        for (int call = 1; call < 512; call++) z.keep(call % 8, 1, call / 8 % 8, 9);
        DUE.is("the 512th call", z.wage(7), -5);
    }

    private static long dearest(OncePerRoad x) {
        return x.orders(0, 0) + 1000L * x.orders(0, 1) + 1000000L * x.seeded(30, 5) + 100000000L * x.often(0, 0, 0, 5);
    }
}
