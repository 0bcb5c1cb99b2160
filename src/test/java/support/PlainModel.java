import java.util.ArrayList;
import java.util.HashSet;
import java.util.List;
import java.util.Set;
import java.util.TreeSet;

/**
 * The document read a second time, slowly: every WAY is written down, every set of WAYS tried.
 * Nothing here is shared with the class that is tested.
 */
final class PlainModel {
    static final long NO_SUCH_SHELF = Long.MIN_VALUE;
    static final long NO_SUCH_ELEMENT = Long.MIN_VALUE + 1;

    private static final class Road {
        final int from;
        final int to;
        final int miles;
        final Set<Integer> nicks = new TreeSet<>();

        Road(int from, int to, int miles) {
            this.from = from;
            this.to = to;
            this.miles = miles;
        }

        int other(int place) {
            return place == from ? to : from;
        }

        boolean touches(int place) {
            return place == from || place == to;
        }
    }

    private static final class State {
        int places = 2;
        final List<Road> roads = new ArrayList<>();
        final List<int[]> carriers = new ArrayList<>();

        State copy() {
            State copy = new State();
            copy.places = places;
            for (Road road : roads) {
                Road twin = new Road(road.from, road.to, road.miles);
                twin.nicks.addAll(road.nicks);
                copy.roads.add(twin);
            }
            copy.carriers.addAll(carriers);
            return copy;
        }
    }

    /** A shelf: nothing, a carrier (kind, figure), or a row with a sort. */
    private static final class Shelf {
        int[] carrier;
        long[] row;
        int sort;
    }

    private State now = new State();
    private State image;
    private final Shelf[] shelves = new Shelf[8];

    PlainModel() {
        for (int i = 0; i < 8; i++) {
            shelves[i] = new Shelf();
        }
    }

    int places() {
        return now.places;
    }

    int roads() {
        return now.roads.size();
    }

    int carriers() {
        return now.carriers.size();
    }

    long answer(String call, int[] a) {
        switch (call) {
            case "land": return land(a[0]);
            case "road": return road(a[0], a[1]);
            case "carrier": return a[0] >= 0 && a[0] < carriers() && in(a[1], 2) ? now.carriers.get(a[0])[a[1]] : -1;
            case "hires": return hires(a[0]);
            case "nick": return nick(a[0], a[1], a[2]);
            case "way": return way(a);
            case "step": return step(a);
            case "go": return go(a);
            case "far": return errand(a[0], a[1], a[2]) ? far(now, a[0], a[1], a[2]) : -1;
            case "many": return many(a);
            case "served": return served(a);
            case "spite": return spite(a);
            case "worth": return worth(a);
            case "newly": return newly(a);
            case "round": return in(a[0], 4) && in(a[1], now.places) ? round(a[0], a[1]) : -1;
            case "often": return often(a);
            case "run": return run(a[0], a[1]);
            case "orders": return orders(a[0], a[1]);
            case "seeded": return seeded(a[0], a[1]);
            case "judge": return judge(a[0]);
            case "image": image = now.copy(); return roads();
            case "restore": return restore();
            case "count": return count(a[0]);
            case "keep": return keep(a);
            case "row": return row(a[0], a[1], a[2]);
            case "put": return put(a[0], a[1], a[2]);
            case "element": return element(a[0], a[1]);
            case "copy": return copy(a[0], a[1], a[2], a[3], a[4]);
            case "wage": return wageCall(a[0]);
            case "toss": return toss(a[0]);
            default: throw new IllegalStateException(call);
        }
    }

    private static boolean in(int number, int below) {
        return 0 <= number && number < below;
    }

    private boolean errand(int good, int a, int b) {
        return in(good, 4) && in(a, now.places) && in(b, now.places) && a != b;
    }

    private static boolean carriage(State s, int c, int good, int a, int b) {
        return in(c, s.carriers.size()) && in(good, 4) && in(a, s.places) && in(b, s.places) && a != b;
    }

    // ---- lands

    private long land(int d) {
        if (!in(d, 8)) return -1;
        if (shelves[d].carrier == null && shelves[d].row == null) return -11;
        if (shelves[d].row == null || shelves[d].sort != 0) return -12;
        StringBuilder text = new StringBuilder();
        for (long b : shelves[d].row) text.append((char) (b & 255));
        int whole = 0;
        State tried = now.copy();
        List<Integer> starts = new ArrayList<>();
        int at = 0;
        while (at < text.length() || starts.isEmpty()) {
            starts.add(at);
            if (at >= text.length()) return -1000 - at;
            String shape = shapeOf(text.charAt(at));
            if (shape == null) return -1000 - at;
            for (int i = 0; i < shape.length(); i++, at++) {
                if (at >= text.length()) return -1000 - at;
                char sign = text.charAt(at);
                boolean fits = shape.charAt(i) == '#' ? "0123456789".indexOf(sign) >= 0 : shape.charAt(i) == sign;
                if (!fits) return -1000 - at;
            }
        }
        for (int start : starts) {
            if (!statement(tried, text.substring(start))) return -2000 - start;
            whole++;
        }
        now = tried;
        return whole;
    }

    private static String shapeOf(char letter) {
        switch (letter) {
            case 'p': return "p#;";
            case 'r': return "r###;";
            case 'u': return "u##;";
            case 'c': return "c##;";
            case 'g': return "g####;";
            default: return null;
        }
    }

    private static boolean statement(State s, String text) {
        int[] v = new int[4];
        for (int i = 0; i < 4 && i + 1 < text.length(); i++) v[i] = text.charAt(i + 1) - '0';
        switch (text.charAt(0)) {
            case 'p':
                if (v[0] > 6 || v[0] < s.places) return false;
                s.places = v[0];
                return true;
            case 'r':
                if (s.roads.size() == 9 || v[0] >= s.places || v[1] >= s.places || v[0] == v[1] || v[2] == 0) return false;
                s.roads.add(new Road(v[0], v[1], v[2]));
                return true;
            case 'u':
                return v[0] < s.roads.size() && v[1] < 4 && s.roads.get(v[0]).nicks.add(v[1]);
            case 'c':
                return v[0] < 8 && s.carriers.size() < 6 && s.carriers.add(new int[] {v[0], v[1]});
            default:
                return carriage(s, v[0], v[1], v[2], v[3]) && gone(s, v[0], v[1], v[2], v[3]) > 0;
        }
    }

    private long road(int road, int what) {
        if (!in(road, roads()) || !in(what, 4)) return -1;
        Road r = now.roads.get(road);
        if (what == 3) {
            int bits = 0;
            for (int good : r.nicks) bits += 1 << good;
            return bits;
        }
        return new int[] {r.from, r.to, r.miles}[what];
    }

    private long hires(int d) {
        if (!in(d, 8)) return -1;
        if (shelves[d].carrier == null) return shelves[d].row == null ? -11 : -12;
        if (carriers() == 6) return -2;
        now.carriers.add(shelves[d].carrier);
        return carriers() - 1;
    }

    private long nick(int road, int good, int is) {
        if (!in(road, roads()) || !in(good, 4) || !in(is, 2)) return -1;
        Set<Integer> nicks = now.roads.get(road).nicks;
        return (is == 1 ? nicks.add(good) : nicks.remove(good)) ? 1 : 0;
    }

    // ---- ways

    /** All WAYS from a to b, in the order of their ROADS. */
    private static List<List<Integer>> allWays(State s, int a, int b) {
        List<List<Integer>> all = new ArrayList<>();
        Set<Integer> seen = new HashSet<>();
        seen.add(a);
        collect(s, a, b, new ArrayList<>(), seen, all);
        return all;
    }

    private static void collect(State s, int at, int b, List<Integer> sofar, Set<Integer> seen, List<List<Integer>> all) {
        if (at == b) {
            all.add(new ArrayList<>(sofar));
            return;
        }
        for (int r = 0; r < s.roads.size(); r++) {
            Road road = s.roads.get(r);
            if (road.touches(at) && seen.add(road.other(at))) {
                sofar.add(r);
                collect(s, road.other(at), b, sofar, seen, all);
                sofar.remove(sofar.size() - 1);
                seen.remove(road.other(at));
            }
        }
    }

    private static List<List<Integer>> freeWays(State s, int good, int a, int b) {
        List<List<Integer>> free = new ArrayList<>();
        for (List<Integer> way : allWays(s, a, b)) {
            boolean isFree = true;
            for (int r : way) isFree &= !s.roads.get(r).nicks.contains(good);
            if (isFree) free.add(way);
        }
        return free;
    }

    /** The LOADS on each ROAD of a WAY. */
    private static List<Set<Integer>> loadsOn(State s, int[] carrier, int good, int a, List<Integer> way) {
        List<Set<Integer>> loads = new ArrayList<>();
        int mill = carrier[1] % s.places;
        boolean milled = false;
        int at = a;
        for (int r : way) {
            milled |= at == mill;
            Set<Integer> load = new TreeSet<>();
            boolean grinds = carrier[0] == 3 || carrier[0] == 6;
            int main = grinds && milled ? (good + 1) % 4 : good;
            load.add(main);
            if (carrier[0] == 6) load.add((main + 1) % 4);
            loads.add(load);
            at = s.roads.get(r).other(at);
        }
        return loads;
    }

    private static boolean mayGo(State s, int[] carrier, List<Integer> way, List<Set<Integer>> loads) {
        if (carrier[0] == 7 && way.size() > carrier[1]) return false;
        for (int i = 0; i < way.size(); i++) {
            if (carrier[0] == 5 && way.get(i) == carrier[1]) continue;
            for (int load : loads.get(i)) {
                if (s.roads.get(way.get(i)).nicks.contains(load)) return false;
            }
        }
        return true;
    }

    private static int weightOf(State s, int[] carrier, List<Integer> way) {
        int sum = 0;
        for (int r : way) {
            Road road = s.roads.get(r);
            switch (carrier[0]) {
                case 1: case 7: sum += 10 * road.miles; break;
                case 2: sum += 10 * road.miles + (4 - road.nicks.size()); break;
                case 4: sum += r == carrier[1] ? 100 : 10; break;
                case 6: sum += 10 + road.miles; break;
                default: sum += 10;
            }
        }
        return sum;
    }

    private static List<Integer> wayOf(State s, int c, int good, int a, int b) {
        int[] carrier = s.carriers.get(c);
        List<Integer> best = null;
        for (List<Integer> way : allWays(s, a, b)) {
            if (!mayGo(s, carrier, way, loadsOn(s, carrier, good, a, way))) continue;
            if (best == null || weightOf(s, carrier, way) < weightOf(s, carrier, best)) best = way;
        }
        return best;
    }

    private static int milesOf(State s, List<Integer> way) {
        int sum = 0;
        for (int r : way) sum += s.roads.get(r).miles;
        return sum;
    }

    /** MILES, or 0 if there is no WAY. */
    private static int gone(State s, int c, int good, int a, int b) {
        List<Integer> way = wayOf(s, c, good, a, b);
        if (way == null) return 0;
        int[] carrier = s.carriers.get(c);
        List<Set<Integer>> loads = loadsOn(s, carrier, good, a, way);
        for (int i = 0; i < way.size(); i++) {
            if (carrier[0] != 5 || way.get(i) != carrier[1]) s.roads.get(way.get(i)).nicks.addAll(loads.get(i));
        }
        return milesOf(s, way);
    }

    private long way(int[] v) {
        if (!carriage(now, v[0], v[1], v[2], v[3]) || !in(v[4], 3)) return -1;
        List<Integer> way = wayOf(now, v[0], v[1], v[2], v[3]);
        if (way == null) return -4;
        if (v[4] == 0) return weightOf(now, now.carriers.get(v[0]), way);
        return v[4] == 1 ? way.size() : milesOf(now, way);
    }

    private long step(int[] v) {
        if (!carriage(now, v[0], v[1], v[2], v[3]) || v[4] < 0) return -1;
        List<Integer> way = wayOf(now, v[0], v[1], v[2], v[3]);
        return way == null || v[4] >= way.size() ? -4 : way.get(v[4]);
    }

    private long go(int[] v) {
        if (!carriage(now, v[0], v[1], v[2], v[3])) return -1;
        int miles = gone(now, v[0], v[1], v[2], v[3]);
        return miles == 0 ? -3 : miles;
    }

    private static int far(State s, int good, int a, int b) {
        int best = -4;
        for (List<Integer> way : freeWays(s, good, a, b)) {
            int miles = milesOf(s, way);
            if (best == -4 || miles < best) best = miles;
        }
        return best;
    }

    /** MANY, by trying which WAYS fit beside one another. */
    private static int packed(List<List<Integer>> ways, int from, Set<Integer> used) {
        int best = 0;
        for (int i = from; i < ways.size(); i++) {
            boolean isApart = true;
            for (int r : ways.get(i)) isApart &= !used.contains(r);
            if (!isApart) continue;
            used.addAll(ways.get(i));
            best = Math.max(best, 1 + packed(ways, i + 1, used));
            used.removeAll(ways.get(i));
        }
        return best;
    }

    private static int manyOf(State s, int good, int a, int b) {
        return packed(freeWays(s, good, a, b), 0, new HashSet<>());
    }

    private long many(int[] v) {
        if (!errand(v[0], v[1], v[2]) || !in(v[3], 2)) return -1;
        int many = manyOf(now, v[0], v[1], v[2]);
        if (v[3] == 0) return many;
        for (int set = 0; set < 1 << now.places; set++) {
            if ((set & 1 << v[1]) == 0 || (set & 1 << v[2]) != 0) continue;
            int out = 0;
            for (Road r : now.roads) {
                boolean leads = (set & 1 << r.from) != 0 ^ (set & 1 << r.to) != 0;
                if (leads && !r.nicks.contains(v[0])) out++;
            }
            if (out == many) return set;
        }
        throw new IllegalStateException("there is always such a set");
    }

    private boolean allServed(int good, int a, List<Integer> villages, int i, Set<Integer> used) {
        if (i == villages.size()) return true;
        for (List<Integer> way : freeWays(now, good, a, villages.get(i))) {
            boolean isApart = true;
            for (int r : way) isApart &= !used.contains(r);
            if (!isApart) continue;
            used.addAll(way);
            boolean all = allServed(good, a, villages, i + 1, used);
            used.removeAll(way);
            if (all) return true;
        }
        return false;
    }

    private long served(int[] v) {
        if (!in(v[0], 4) || !in(v[1], now.places) || !in(v[3], 2)) return -1;
        if (v[2] < 0 || v[2] >= 1 << now.places || (v[2] & 1 << v[1]) != 0) return -1;
        int most = -1;
        int which = 0;
        for (int set = 0; set < 1 << now.places; set++) {
            if ((set | v[2]) != v[2]) continue;
            List<Integer> villages = new ArrayList<>();
            for (int p = 0; p < now.places; p++) if ((set & 1 << p) != 0) villages.add(p);
            if (villages.size() > most && allServed(v[0], v[1], villages, 0, new HashSet<>())) {
                most = villages.size();
                which = set;
            }
        }
        return v[3] == 0 ? most : which;
    }

    private long spite(int[] v) {
        if (!errand(v[0], v[1], v[2]) || !in(v[3], 2)) return -1;
        int worst = -4;
        int least = -4;
        for (int r = 0; r < roads(); r++) {
            State s = now.copy();
            if (!s.roads.get(r).nicks.add(v[0])) continue;
            int then = manyOf(s, v[0], v[1], v[2]);
            if (worst == -4 || then < least) {
                worst = r;
                least = then;
            }
        }
        return v[3] == 0 ? worst : least;
    }

    private long worth(int[] v) {
        if (!in(v[0], roads()) || !errand(v[1], v[2], v[3])) return -1;
        int before = far(now, v[1], v[2], v[3]);
        State s = now.copy();
        s.roads.get(v[0]).nicks.add(v[1]);
        int then = far(s, v[1], v[2], v[3]);
        if (before == -4) return 0;
        return then == -4 ? 99 : then - before;
    }

    private long newly(int[] v) {
        if (!errand(v[0], v[1], v[2]) || !in(v[3], 2)) return -1;
        int pair = -1;
        int most = -1;
        for (int code = 0; code < 60; code++) {
            int p = code / 10;
            int q = code % 10;
            if (p >= q || q >= now.places) continue;
            State s = now.copy();
            s.roads.add(new Road(p, q, 1));
            int then = manyOf(s, v[0], v[1], v[2]);
            if (then > most) {
                pair = code;
                most = then;
            }
        }
        return v[3] == 0 ? pair : most;
    }

    private long round(int good, int a) {
        int best = -4;
        for (int x = 0; x < now.places; x++) {
            if (x == a) continue;
            for (List<Integer> there : freeWays(now, good, a, x)) {
                for (Road back : now.roads) {
                    boolean closes = back.touches(a) && back.touches(x) && !back.nicks.contains(good);
                    if (!closes || there.contains(now.roads.indexOf(back))) continue;
                    int miles = milesOf(now, there) + back.miles;
                    if (best == -4 || miles < best) best = miles;
                }
            }
        }
        return best;
    }

    // ---- carriages

    private long often(int[] v) {
        if (!carriage(now, v[0], v[1], v[2], v[3])) return -1;
        State s = now.copy();
        int times = 0;
        for (int i = 0; i < 9; i++) {
            if (gone(s, v[0], v[1], v[2], v[3]) == 0) break;
            times++;
        }
        return times;
    }

    private long carriagesRefusal(int d, int what) {
        if (!in(d, 8) || !in(what, 2)) return -1;
        Shelf shelf = shelves[d];
        if (shelf.carrier == null && shelf.row == null) return -11;
        if (shelf.row == null || shelf.sort != 0) return -12;
        if (shelf.row.length % 4 != 0 || shelf.row.length / 4 > 5) return -13;
        for (int i = 0; i < shelf.row.length; i += 4) {
            int[] v = carriageAt(shelf, i / 4);
            if (!carriage(now, v[0], v[1], v[2], v[3])) return -13;
        }
        return 0;
    }

    private static int[] carriageAt(Shelf shelf, int k) {
        int[] v = new int[4];
        for (int i = 0; i < 4; i++) v[i] = (int) shelf.row[4 * k + i];
        return v;
    }

    private long run(int d, int what) {
        long refusal = carriagesRefusal(d, what);
        if (refusal != 0) return refusal;
        State s = now.copy();
        int gone = 0;
        int miles = 0;
        for (int k = 0; k < shelves[d].row.length / 4; k++) {
            int[] v = carriageAt(shelves[d], k);
            int more = gone(s, v[0], v[1], v[2], v[3]);
            if (more > 0) gone++;
            miles += more;
        }
        return what == 0 ? gone : miles;
    }

    private long orders(int d, int what) {
        long refusal = carriagesRefusal(d, what);
        if (refusal != 0) return refusal;
        int n = shelves[d].row.length / 4;
        List<List<Integer>> orders = new ArrayList<>();
        permute(n, new ArrayList<>(), orders);
        int found = 0;
        int least = -4;
        for (List<Integer> order : orders) {
            State s = now.copy();
            int miles = 0;
            boolean all = true;
            for (int k : order) {
                int[] v = carriageAt(shelves[d], k);
                int more = gone(s, v[0], v[1], v[2], v[3]);
                all &= more > 0;
                miles += more;
            }
            if (!all) continue;
            found++;
            if (least == -4 || miles < least) least = miles;
        }
        return what == 0 ? found : least;
    }

    private static void permute(int n, List<Integer> sofar, List<List<Integer>> orders) {
        if (sofar.size() == n) orders.add(new ArrayList<>(sofar));
        for (int k = 0; k < n; k++) {
            if (sofar.contains(k)) continue;
            sofar.add(k);
            permute(n, sofar, orders);
            sofar.remove(sofar.size() - 1);
        }
    }

    private int z;

    private int draw(int below) {
        z = z * 1103515245 + 12345;
        long unsigned = z < 0 ? z + (1L << 31) : z;
        return (int) (unsigned / 65536 % below);
    }

    private long seeded(int n, int seed) {
        if (n < 1 || n > 30) return -1;
        if (carriers() == 0) return -3;
        z = seed;
        State s = now.copy();
        int gone = 0;
        for (int i = 0; i < n; i++) {
            int c = draw(carriers());
            int good = draw(4);
            int a = draw(now.places);
            int b = draw(now.places);
            if (a != b && gone(s, c, good, a, b) > 0) gone++;
        }
        return gone;
    }

    private long judge(int d) {
        if (!in(d, 8)) return -1;
        Shelf shelf = shelves[d];
        if (shelf.row == null) return shelf.carrier == null ? -11 : -12;
        State s = now.copy();
        for (int i = 0; i < shelf.row.length; i++) {
            boolean isRoad = i % 2 == 0;
            long v = shelf.row[i];
            if (isRoad && (v < 0 || v >= roads())) return i;
            if (!isRoad && (v < 0 || v > 3 || !s.roads.get((int) shelf.row[i - 1]).nicks.add((int) v))) return i;
        }
        return shelf.row.length % 2 == 1 ? shelf.row.length - 1 : -4;
    }

    private long restore() {
        if (image == null) return -3;
        now = image.copy();
        return roads();
    }

    private long count(int what) {
        int sum = 0;
        switch (what) {
            case 0: return now.places;
            case 1: return roads();
            case 2: return carriers();
            case 3: for (Road r : now.roads) sum += r.nicks.size(); return sum;
            case 4: for (Road r : now.roads) sum += r.miles; return sum;
            default: return -1;
        }
    }

    // ---- shelves

    private long keep(int[] v) {
        if (!in(v[0], 8) || !in(v[1], 2)) return -1;
        if (v[1] == 1 && (!in(v[2], 8) || !in(v[3], 10))) return -1;
        shelves[v[0]] = new Shelf();
        if (v[1] == 1) shelves[v[0]].carrier = new int[] {v[2], v[3]};
        return 0;
    }

    private long row(int d, int sort, int n) {
        if (!in(d, 8) || !in(sort, 3) || n > 100) return -1;
        if (n < 0) return -14;
        shelves[d] = new Shelf();
        shelves[d].row = new long[n];
        shelves[d].sort = sort;
        return 0;
    }

    private long put(int d, int i, int v) {
        if (!in(d, 8)) return -1;
        Shelf shelf = shelves[d];
        if (shelf.row == null) return shelf.carrier == null ? -11 : -12;
        if (!in(i, shelf.row.length)) return -13;
        shelf.row[i] = shelf.sort == 0 ? (byte) v : shelf.sort == 1 ? (short) v : v;
        return 0;
    }

    private long element(int d, int i) {
        if (!in(d, 8)) return NO_SUCH_SHELF;
        if (shelves[d].row == null || !in(i, shelves[d].row.length)) return NO_SUCH_ELEMENT;
        return shelves[d].row[i];
    }

    private long copy(int d, int i, int e, int j, int n) {
        if (!in(d, 8) || !in(e, 8)) return -1;
        Shelf source = shelves[d];
        Shelf target = shelves[e];
        if (source.row == null && source.carrier == null || target.row == null && target.carrier == null) return -11;
        if (source.row == null || target.row == null || source.sort != target.sort) return -12;
        if (n < 0 || i < 0 || j < 0) return -13;
        if ((long) i + n > source.row.length || (long) j + n > target.row.length) return -13;
        long[] moved = new long[n];
        for (int k = 0; k < n; k++) moved[k] = source.row[i + k];
        for (int k = 0; k < n; k++) target.row[j + k] = moved[k];
        return n;
    }

    private static int wageOf(int kind, int figure) {
        switch (kind) {
            case 1: return 4;
            case 2: return 4 + figure;
            case 3: return 5 + 2 * figure;
            case 5: return 15;
            case 6: return 10 + 4 * figure;
            case 7: return 4 - figure;
            default: return 5;
        }
    }

    private long wageCall(int d) {
        if (!in(d, 8)) return -1;
        int[] carrier = shelves[d].carrier;
        if (carrier == null) return shelves[d].row == null ? -11 : -12;
        return wageOf(carrier[0], carrier[1]);
    }

    private long toss(int d) {
        if (!in(d, 8)) return -1;
        int[] carrier = shelves[d].carrier;
        if (carrier == null) return shelves[d].row == null ? -11 : -12;
        if (carrier[0] == 5 || carrier[1] == 0) return -15;
        if (carrier[0] == 6) return 200 + wageOf(6, carrier[1]);
        return carrier[0] == 2 ? 100 + carrier[1] : carrier[1];
    }
}
