import java.util.ArrayList;
import java.util.List;

/**
 * The document again, told as slowly and as literally as can be, by other means than the class:
 * fractions for places, the text of the law worked out anew each time, real classes for the acts, real arrays for the rows.
 */
final class Oracle {
    static final int BAD = -1, NOT = -2, FULL = -3, STATE = -5;

    /** A tower that stands or is thought of. */
    record Tower(int point, int height, int price, int old, int number) {
        int x() {
            return point % 30;
        }

        int y() {
            return point / 30;
        }

        Tower at(int where) {
            return new Tower(where, height, price, old, number);
        }
    }

    /** A place by fractions with one common divisor. */
    record Place(long x, long y, long below) {
        static Place of(int point) {
            return new Place(point % 30, point / 30, 1);
        }
    }

    private record Change(int tower, int what, int before, int after) { }

    private final List<Tower> towers = new ArrayList<>();
    private final List<List<Integer>> roads = new ArrayList<>();
    private final List<int[]> forests = new ArrayList<>();
    private final List<int[]> sights = new ArrayList<>();
    private final List<Change> past = new ArrayList<>();
    private final List<Change> undone = new ArrayList<>();
    private final StringBuilder tape = new StringBuilder();
    private String law = null;
    final OracleActs acts = new OracleActs();

    private static boolean point(int p) {
        return p >= 0 && p <= 899;
    }

    private boolean isTower(int t) {
        return t >= 0 && t < towers.size();
    }

    private boolean isRoad(int r) {
        return r >= 0 && r < roads.size();
    }

    private static boolean standsAt(List<Tower> all, int p) {
        return all.stream().anyMatch(t -> t.point == p);
    }

    // ---- the plain

    int tower(int p, int hp) {
        if (!point(p) || hp < 0 || hp > 9991 || hp % 10 > 1 || standsAt(towers, p)) {
            return BAD;
        }
        if (towers.size() == 10) {
            return FULL;
        }
        towers.add(new Tower(p, hp / 1000, hp % 1000 / 10, hp % 10, towers.size()));
        return towers.size() - 1;
    }

    int towers(int shelf, int i, int n) {
        if (shelf < 0 || shelf > 5 || n < 1 || n > 10) {
            return BAD;
        }
        Object held = acts.shelves[shelf];
        if (held != null && !(held instanceof short[])) {
            return -12;
        }
        int came = 0;
        try {
            short[] row = (short[]) held;
            for (int at = i; came < n; at += 3) {
                int p = row[at];
                int h = row[at + 1];
                int c = row[at + 2];
                if (h < 0 || h > 9 || c < 0 || c > 99 || tower(p, 1000 * h + 10 * c) < 0) {
                    break;
                }
                came++;
            }
        } catch (NullPointerException | ArrayIndexOutOfBoundsException ended) {
            return came;
        }
        return came;
    }

    int road(int a, int b) {
        if (!point(a) || !point(b) || a == b) {
            return BAD;
        }
        if (roads.size() == 4) {
            return FULL;
        }
        roads.add(new ArrayList<>(List.of(a, b)));
        return roads.size() - 1;
    }

    int corner(int road, int p) {
        if (!isRoad(road) || !point(p)) {
            return BAD;
        }
        List<Integer> row = roads.get(road);
        if (row.get(row.size() - 1) == p) {
            return BAD;
        }
        if (row.size() == 6) {
            return FULL;
        }
        row.add(p);
        return row.size();
    }

    int forest(int a, int b) {
        if (!point(a) || !point(b) || a == b) {
            return BAD;
        }
        if (forests.size() == 8) {
            return FULL;
        }
        forests.add(new int[] {a, b});
        return forests.size() - 1;
    }

    int feed(int letter) {
        if (letter < 0 || letter > 255) {
            return BAD;
        }
        if (tape.length() == 120) {
            return FULL;
        }
        tape.append((char) letter);
        return tape.length();
    }

    int law() {
        String text = tape.toString();
        tape.setLength(0);
        int fault = OracleLaw.fault(text);
        if (fault >= 0) {
            return -100 - fault;
        }
        law = text;
        return 1;
    }

    int mend(int t, int what, int v) {
        if (!isTower(t) || what < 0 || what > 2 || v < 0 || v > new int[] {9, 99, 1}[what]) {
            return BAD;
        }
        Tower it = towers.get(t);
        int was = new int[] {it.height, it.price, it.old}[what];
        if (was != v) {
            undone.clear();
            past.add(new Change(t, what, was, v));
            if (past.size() > 40) {
                past.remove(0);
            }
            set(t, what, v);
        }
        return was;
    }

    private void set(int t, int what, int v) {
        Tower it = towers.get(t);
        towers.set(t, new Tower(it.point, what == 0 ? v : it.height, what == 1 ? v : it.price, what == 2 ? v : it.old, t));
    }

    int of(int number, int what) {
        if (isTower(number) && what >= 0 && what <= 3) {
            Tower it = towers.get(number);
            return new int[] {it.point, it.height, it.price, it.old}[what];
        }
        if (isRoad(number) && what == 10) {
            return roads.get(number).size();
        }
        if (isRoad(number) && what >= 20 && what < 20 + roads.get(number).size()) {
            return roads.get(number).get(what - 20);
        }
        return BAD;
    }

    // ---- lines

    private static long cross(long ax, long ay, long bx, long by) {
        return ax * by - ay * bx;
    }

    /** By parameters of the way (0 .. 1 without its ends) and of the forest (0 .. 1 with them). */
    private boolean stopped(Place p, Tower t) {
        for (int[] f : forests) {
            long d = p.below;
            long wx = t.x() * d - p.x;
            long wy = t.y() * d - p.y;
            long ax = f[0] % 30 * d;
            long ay = f[0] / 30 * d;
            long ex = f[1] % 30 * d - ax;
            long ey = f[1] / 30 * d - ay;
            if (wx == 0 && wy == 0) {
                return false;
            }
            long base = cross(wx, wy, ex, ey);
            long ox = ax - p.x;
            long oy = ay - p.y;
            if (base != 0) {
                long u = cross(ox, oy, ex, ey) * Long.signum(base);
                long v = cross(ox, oy, wx, wy) * Long.signum(base);
                long one = Math.abs(base);
                if (u > 0 && u < one && v >= 0 && v <= one) {
                    return true;
                }
            } else if (cross(ox, oy, wx, wy) == 0) {
                long whole = wx * wx + wy * wy;
                long u = ox * wx + oy * wy;
                long v = (ox + ex) * wx + (oy + ey) * wy;
                boolean within = u > 0 && u < whole || v > 0 && v < whole;
                boolean around = Math.min(u, v) <= 0 && Math.max(u, v) >= whole;
                if (within || around) {
                    return true;
                }
            }
        }
        return false;
    }

    private boolean inLine(Place p, int k, Tower s, Tower t) {
        long sx = s.x() * p.below - p.x;
        long sy = s.y() * p.below - p.y;
        long tx = t.x() * p.below - p.x;
        long ty = t.y() * p.below - p.y;
        if (sx == 0 && sy == 0 || tx == 0 && ty == 0 || cross(sx, sy, tx, ty) != 0 || sx * tx + sy * ty < 0) {
            return false;
        }
        boolean first = sx * sx + sy * sy < tx * tx + ty * ty;
        Tower near = first ? s : t;
        Tower far = first ? t : s;
        if (stopped(p, near) || stopped(p, far)) {
            return false;
        }
        if (law == null) {
            return far.height <= near.height + 3;
        }
        int[] names = {near.height, far.height, near.old + far.old, k, Math.min(s.number, t.number), Math.max(s.number, t.number)};
        return OracleLaw.value(law, names) != 0;
    }

    /** Above and below the line, or null. */
    private long[] guilt(int a, int b, int k, Tower s, Tower t) {
        long dx = t.x() - s.x();
        long dy = t.y() - s.y();
        long atA = cross(dx, dy, a % 30 - s.x(), a / 30 - s.y());
        long atB = cross(dx, dy, b % 30 - s.x(), b / 30 - s.y());
        if (atA == atB) {
            if (atA != 0) {
                return null;
            }
            if (inLine(Place.of(a), k, s, t)) {
                return new long[] {0, 1};
            }
            return inLine(Place.of(b), k, s, t) ? new long[] {1, 1} : null;
        }
        long above = atA;
        long below = atA - atB;
        if (below < 0) {
            above = -above;
            below = -below;
        }
        if (above < 0 || above > below) {
            return null;
        }
        for (long d = below; d > 1; d--) {
            if (above % d == 0 && below % d == 0) {
                above /= d;
                below /= d;
            }
        }
        long x = a % 30 * below + above * (b % 30 - a % 30);
        long y = a / 30 * below + above * (b / 30 - a / 30);
        return inLine(new Place(x, y, below), k, s, t) ? new long[] {above, below} : null;
    }

    private boolean isPair(int ab) {
        return ab >= 0 && isTower(ab / 10) && isTower(ab % 10) && ab / 10 != ab % 10;
    }

    private boolean isStretch(int ri) {
        return ri >= 0 && isRoad(ri / 10) && ri % 10 <= roads.get(ri / 10).size() - 2;
    }

    int line(int ab, int p, int k) {
        if (!isPair(ab) || !point(p) || k < 0 || k > 4) {
            return BAD;
        }
        return inLine(Place.of(p), k, towers.get(ab / 10), towers.get(ab % 10)) ? 1 : 0;
    }

    int guilty(int ri, int ab, int part) {
        if (!isStretch(ri) || !isPair(ab) || part < 0 || part > 1) {
            return BAD;
        }
        List<Integer> row = roads.get(ri / 10);
        long[] found = guilt(row.get(ri % 10), row.get(ri % 10 + 1), ri / 10, towers.get(ab / 10), towers.get(ab % 10));
        return found == null ? NOT : (int) found[part];
    }

    /** All guilts as rows: road, stretch, lesser tower, other one. */
    private List<int[]> allGuilts(List<List<Integer>> ways, List<Tower> all) {
        List<int[]> found = new ArrayList<>();
        for (int r = 0; r < ways.size(); r++) {
            for (int i = 0; i + 1 < ways.get(r).size(); i++) {
                for (int s = 0; s < all.size(); s++) {
                    for (int t = s + 1; t < all.size(); t++) {
                        if (guilt(ways.get(r).get(i), ways.get(r).get(i + 1), r, all.get(s), all.get(t)) != null) {
                            found.add(new int[] {r, i, s, t});
                        }
                    }
                }
            }
        }
        return found;
    }

    int guilts(int road) {
        if (road != -1 && !isRoad(road)) {
            return BAD;
        }
        return (int) allGuilts(roads, towers).stream().filter(g -> road == -1 || g[0] == road).count();
    }

    int which(int what) {
        if (what < 0 || what > 3) {
            return BAD;
        }
        List<int[]> all = allGuilts(roads, towers);
        return all.isEmpty() ? NOT : all.get(0)[what];
    }

    int led(int t) {
        if (!isTower(t)) {
            return BAD;
        }
        return (int) allGuilts(roads, towers).stream().filter(g -> g[2] == t || g[3] == t).count();
    }

    private int seen(int p, List<Tower> all) {
        int bits = 0;
        for (int i = 0; i < all.size(); i++) {
            Tower t = all.get(i);
            if (t.point != p && !stopped(Place.of(p), t) && all.stream().noneMatch(o -> hides(p, o, t))) {
                bits |= 1 << i;
            }
        }
        return bits;
    }

    private static boolean hides(int p, Tower o, Tower t) {
        int ox = o.x() - p % 30;
        int oy = o.y() - p / 30;
        int tx = t.x() - p % 30;
        int ty = t.y() - p / 30;
        boolean along = (ox != 0 || oy != 0) && ox * ty == oy * tx && Integer.signum(ox) == Integer.signum(tx) && Integer.signum(oy) == Integer.signum(ty);
        return along && ox * ox + oy * oy < tx * tx + ty * ty && o.height >= t.height;
    }

    int seen(int p) {
        return point(p) ? seen(p, towers) : BAD;
    }

    // ---- where, who, how

    private boolean isFree(int p, List<Tower> all, Tower more) {
        if (standsAt(all, p) || roads.stream().anyMatch(r -> r.contains(p))) {
            return false;
        }
        for (int r = 0; r < roads.size(); r++) {
            for (int i = 0; i + 1 < roads.get(r).size(); i++) {
                for (Tower t : all) {
                    if (guilt(roads.get(r).get(i), roads.get(r).get(i + 1), r, t, more.at(p)) != null) {
                        return false;
                    }
                }
            }
        }
        return true;
    }

    int free(int y, int height, int what) {
        if (y < 0 || y > 29 || height < 0 || height > 9 || what < 0 || what > 1) {
            return BAD;
        }
        if (towers.size() == 10) {
            return STATE;
        }
        int many = 0;
        int first = NOT;
        for (int x = 29; x >= 0; x--) {
            if (isFree(30 * y + x, towers, new Tower(0, height, 0, 0, towers.size()))) {
                many++;
                first = x;
            }
        }
        return what == 0 ? many : first;
    }

    int years(int height, int what) {
        if (height < 0 || height > 9 || what < 0 || what > 1) {
            return BAD;
        }
        List<Tower> all = new ArrayList<>(towers);
        int last = NOT;
        search:
        while (all.size() < 10) {
            Tower more = new Tower(0, height, 0, 0, all.size());
            for (int p = 0; p < 900; p++) {
                if (isFree(p, all, more)) {
                    all.add(more.at(p));
                    last = p;
                    continue search;
                }
            }
            break;
        }
        return what == 0 ? all.size() - towers.size() : last;
    }

    private boolean lawfulWithout(int gone) {
        List<Tower> left = towers.stream().filter(t -> (gone >> t.number & 1) == 0).toList();
        return allGuilts(roads, left).isEmpty();
    }

    private int price(int bits) {
        return towers.stream().filter(t -> (bits >> t.number & 1) != 0).mapToInt(Tower::price).sum();
    }

    int fewest() {
        for (int many = 0; many <= towers.size(); many++) {
            for (int bits = 0; bits < 1 << towers.size(); bits++) {
                if (Integer.bitCount(bits) == many && lawfulWithout(bits)) {
                    return bits;
                }
            }
        }
        throw new IllegalStateException();
    }

    int cheapest(int what) {
        if (what < 0 || what > 1) {
            return BAD;
        }
        int best = -1;
        for (int bits = 0; bits < 1 << towers.size(); bits++) {
            if ((best < 0 || price(bits) < price(best)) && lawfulWithout(bits)) {
                best = bits;
            }
        }
        return what == 0 ? best : price(best);
    }

    int moved(int t, int xy) {
        if (!isTower(t) || xy < 0 || xy / 100 > 18 || xy % 100 > 18) {
            return BAD;
        }
        int x = towers.get(t).x() + xy / 100 - 9;
        int y = towers.get(t).y() + xy % 100 - 9;
        if (x < 0 || x > 29 || y < 0 || y > 29) {
            return NOT;
        }
        List<Tower> all = new ArrayList<>(towers);
        Tower it = all.get(t);
        if (all.stream().anyMatch(o -> o != it && o.point == 30 * y + x)) {
            return NOT;
        }
        all.set(t, it.at(30 * y + x));
        return allGuilts(roads, all).size();
    }

    int bent(int ri, int what) {
        if (!isStretch(ri) || what < 0 || what > 1) {
            return BAD;
        }
        List<Integer> row = roads.get(ri / 10);
        if (row.size() == 6) {
            return STATE;
        }
        int best = -1;
        int least = 0;
        for (int p = 0; p < 900; p++) {
            if (p == row.get(ri % 10) || p == row.get(ri % 10 + 1) || standsAt(towers, p)) {
                continue;
            }
            List<List<Integer>> ways = new ArrayList<>(roads);
            List<Integer> bent = new ArrayList<>(row);
            bent.add(ri % 10 + 1, p);
            ways.set(ri / 10, bent);
            int many = allGuilts(ways, towers).size();
            if (best < 0 || many < least) {
                best = p;
                least = many;
            }
        }
        return what == 0 ? best : least;
    }

    int newly(int a, int b) {
        if (!point(a) || !point(b)) {
            return BAD;
        }
        boolean[] may = new boolean[900];
        for (int p = 0; p < 900; p++) {
            may[p] = !standsAt(towers, p);
            for (int s = 0; s < towers.size() && may[p]; s++) {
                for (int t = s + 1; t < towers.size() && may[p]; t++) {
                    may[p] = !inLine(Place.of(p), 4, towers.get(s), towers.get(t));
                }
            }
        }
        if (!may[a] || !may[b]) {
            return NOT;
        }
        boolean[] reached = new boolean[900];
        reached[a] = true;
        for (int steps = 0; steps <= 900; steps++) {
            if (reached[b]) {
                return steps;
            }
            boolean[] next = reached.clone();
            for (int p = 0; p < 900; p++) {
                boolean beside = p % 30 > 0 && reached[p - 1] || p % 30 < 29 && reached[p + 1] || p >= 30 && reached[p - 30] || p < 870 && reached[p + 30];
                next[p] |= beside && may[p];
            }
            reached = next;
        }
        return NOT;
    }

    private int winner(int p, int side, Tower more, List<Tower> all) {
        if (all.size() == 10) {
            return NOT;
        }
        for (int dy = 0; dy < side; dy++) {
            for (int dx = 0; dx < side; dx++) {
                int q = p + 30 * dy + dx;
                if (isFree(q, all, more)) {
                    List<Tower> next = new ArrayList<>(all);
                    next.add(more.at(q));
                    if (winner(p, side, more, next) < 0) {
                        return q;
                    }
                }
            }
        }
        return NOT;
    }

    int game(int p, int sh, int what) {
        if (!point(p) || sh < 20 || sh > 39 || what < 0 || what > 1 || p % 30 + sh / 10 - 1 > 29 || p / 30 + sh / 10 - 1 > 29) {
            return BAD;
        }
        int first = winner(p, sh / 10, new Tower(0, sh % 10, 0, 0, 10), towers);
        return what == 1 ? first : first < 0 ? 0 : 1;
    }

    // ---- sights

    int sight(int p, int bits) {
        if (!point(p) || bits < 0 || bits > 1023) {
            return BAD;
        }
        if (sights.size() == 10) {
            return FULL;
        }
        sights.add(new int[] {p, bits});
        return sights.size() - 1;
    }

    int fits(int t, int what) {
        if (!isTower(t) || what < 0 || what > 1) {
            return BAD;
        }
        int many = 0;
        int first = NOT;
        for (int p = 899; p >= 0; p--) {
            List<Tower> all = new ArrayList<>(towers);
            all.remove(t);
            if (standsAt(all, p)) {
                continue;
            }
            all.add(t, towers.get(t).at(p));
            if (sights.stream().allMatch(s -> seen(s[0], all) == s[1])) {
                many++;
                first = p;
            }
        }
        return what == 0 ? many : first;
    }

    int undo() {
        if (past.isEmpty()) {
            return STATE;
        }
        Change last = past.remove(past.size() - 1);
        set(last.tower, last.what, last.before);
        undone.add(last);
        return past.size();
    }

    int redo() {
        if (undone.isEmpty()) {
            return STATE;
        }
        Change last = undone.remove(undone.size() - 1);
        set(last.tower, last.what, last.after);
        past.add(last);
        return undone.size();
    }

    int count(int what) {
        if (what < 0 || what > 7) {
            return BAD;
        }
        return new int[] {towers.size(), roads.size(), forests.size(), sights.size(), tape.length(), past.size(),
            acts.bodies.size(), acts.ran.size()}[what];
    }
}
