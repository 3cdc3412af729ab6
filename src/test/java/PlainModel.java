import java.util.ArrayList;
import java.util.HashMap;
import java.util.List;
import java.util.Map;
import java.util.TreeSet;

/** The document said again, call by call, in the plainest loops: what DragonJars is compared with. */
public final class PlainModel {
    private static final int UNKNOWN = -1, OUTSIDE = -2, STATE = -3, FULL = -4, NONE = -9;
    private static final long LOST = Long.MIN_VALUE;

    private static final class Pillar {
        int width, lean, fell = NONE;
    }

    private static final class House {
        int kind, x, y, jar, stop, off, slip, ball = NONE;
        boolean wound = true;
        Integer reads = null;
        final List<Pillar> pillars = new ArrayList<>();
    }

    private record Guess(int x, int y, int z, int s, int kind) { }

    private static final class Report {
        int kind, house, pillar, v;
        boolean on = true;
    }

    private record Shake(int x, int y, int s, int t) { }

    private record Near(Guess guess, int time, int wrong) { }

    private static final List<Guess> GUESSES = allGuesses();

    private final List<House> houses = new ArrayList<>();
    private final List<Report> reports = new ArrayList<>();
    private final List<Shake> shakes = new ArrayList<>();
    private final Object[] sheets = new Object[4];
    private int trace = 0;
    private int fault = 0;

    private static List<Guess> allGuesses() {
        List<Guess> all = new ArrayList<>();
        for (int x = 0; x < 12; x++)
            for (int y = 0; y < 12; y++)
                for (int z = 0; z < 4; z++)
                    for (int s = 1; s <= 12; s++)
                        for (int kind = 0; kind < 2; kind++)
                            all.add(new Guess(x, y, z, s, kind));
        return all;
    }

    // ---- terms

    private static boolean in(long v, long a, long b) {
        return a <= v && v <= b;
    }

    private boolean noHouse(int h) {
        return !in(h, 0, houses.size() - 1);
    }

    private static int far(House a, Guess g) {
        int dx = a.x - g.x, dy = a.y - g.y;
        return dx * dx + dy * dy + 9 * g.z * g.z;
    }

    private static int force(House a, Guess g) {
        return 240 * g.s / (12 + far(a, g));
    }

    private static int root(int n) {
        int r = 0;
        while ((r + 1) * (r + 1) <= n) r++;
        return r;
    }

    private static int delay(House a, Guess g) {
        return root(4 * far(a, g));
    }

    private static int wayOf(House a, Guess g) {
        int dx = a.x - g.x, dy = a.y - g.y;
        if (g.kind == 1 || dx == 0 && dy == 0) return 8;
        int sizeX = Math.abs(dx), sizeY = Math.abs(dy);
        if (2 * sizeY < sizeX) return dx > 0 ? 0 : 4;
        if (2 * sizeX < sizeY) return dy > 0 ? 2 : 6;
        if (dx > 0 && dy > 0) return 1;
        if (dx < 0 && dy > 0) return 3;
        if (dx < 0 && dy < 0) return 5;
        return 7;
    }

    private static boolean near(int a, int b) {
        return a == b || (a + 1) % 8 == b || (b + 1) % 8 == a;
    }

    private static int need(Pillar p, int way) {
        return p.width - (p.lean >= 0 && way != 8 && near(p.lean, way) ? 20 : 0);
    }

    private static int fallWay(Pillar p, int way) {
        return way != 8 ? way : p.lean >= 0 ? p.lean : 8;
    }

    private static int dropOf(House a, Guess g) {
        int way = wayOf(a, g);
        return way != 8 && force(a, g) >= a.jar ? way : -1;
    }

    private int fail(int which) {
        fault = which;
        return -10 - which;
    }

    // ---- 1 the land

    public int house(int kind, int x, int y, int jar, int stop) {
        if (!in(kind, 0, 2) || !in(x, 0, 11) || !in(y, 0, 11) || !in(jar, 1, 240) || !in(stop, 1, 240))
            return OUTSIDE;
        if (houses.size() == 8) return FULL;
        House a = new House();
        a.kind = kind;
        a.x = x;
        a.y = y;
        a.jar = jar;
        a.stop = stop;
        houses.add(a);
        return houses.size() - 1;
    }

    public int pillar(int h, int width, int lean) {
        if (noHouse(h)) return UNKNOWN;
        if (!in(width, 1, 240) || !in(lean, -1, 7)) return OUTSIDE;
        List<Pillar> row = houses.get(h).pillars;
        if (row.size() == 6) return FULL;
        Pillar p = new Pillar();
        p.width = width;
        p.lean = lean;
        row.add(p);
        return row.size() - 1;
    }

    public int pillars(int h, int sheet, int lane, int i, int n) {
        fault = 0;
        if (noHouse(h) || !in(sheet, 0, 3)) return UNKNOWN;
        if (!in(lane, 0, 2)) return OUTSIDE;
        int found = cellFault(sheet, lane, i, n, 2);
        if (found != 0) return fail(found);
        House a = houses.get(h);
        List<Pillar> before = new ArrayList<>(a.pillars);
        for (int j = 0; j < n; j++) {
            int answer = pillar(h, (int) cellAt(sheet, i + 2 * j), (int) cellAt(sheet, i + 2 * j + 1));
            if (answer < 0) {
                a.pillars.clear();
                a.pillars.addAll(before);
                return answer;
            }
        }
        return a.pillars.size();
    }

    public int clock(int h, int off, int slip) {
        if (noHouse(h)) return UNKNOWN;
        if (!in(off, -50, 50) || !in(slip, 0, 20)) return OUTSIDE;
        houses.get(h).off = off;
        houses.get(h).slip = slip;
        return 1;
    }

    public int wind(int h, boolean is) {
        if (noHouse(h)) return UNKNOWN;
        boolean changed = houses.get(h).wound != is;
        houses.get(h).wound = is;
        return changed ? 1 : 0;
    }

    public int set(int h) {
        if (noHouse(h)) return UNKNOWN;
        House a = houses.get(h);
        int n = 0;
        if (a.ball != NONE) n++;
        if (a.reads != null) n++;
        a.ball = NONE;
        a.reads = null;
        for (Pillar p : a.pillars) {
            if (p.fell != NONE) n++;
            p.fell = NONE;
        }
        return n;
    }

    public int about(int h, int what) {
        if (noHouse(h)) return UNKNOWN;
        if (!in(what, 0, 11)) return OUTSIDE;
        House a = houses.get(h);
        int fell = 0;
        for (Pillar p : a.pillars) if (p.fell != NONE) fell++;
        return new int[] {a.kind, a.x, a.y, a.jar, a.stop, a.off, a.slip, a.wound ? 1 : 0,
            a.pillars.size(), a.ball, fell, a.reads != null ? 1 : 0}[what];
    }

    public long stopped(int h) {
        return noHouse(h) || houses.get(h).reads == null ? LOST : houses.get(h).reads;
    }

    public int fallen(int h, int p, int what) {
        if (noHouse(h) || !in(p, 0, houses.get(h).pillars.size() - 1)) return UNKNOWN;
        if (!in(what, 0, 2)) return OUTSIDE;
        Pillar q = houses.get(h).pillars.get(p);
        return new int[] {q.width, q.lean, q.fell}[what];
    }

    private static boolean badShake(int x, int y, int z, int s, int kind) {
        return !in(x, 0, 11) || !in(y, 0, 11) || !in(z, 0, 3) || !in(s, 1, 12) || !in(kind, 0, 1);
    }

    public int would(int h, int x, int y, int z, int s, int kind, int what) {
        if (noHouse(h)) return UNKNOWN;
        if (badShake(x, y, z, s, kind) || !in(what, 0, 2)) return OUTSIDE;
        Guess g = new Guess(x, y, z, s, kind);
        House a = houses.get(h);
        return new int[] {force(a, g), wayOf(a, g), delay(a, g)}[what];
    }

    public int shake(int x, int y, int z, int s, int kind, int t) {
        if (badShake(x, y, z, s, kind) || !in(t, 0, 1000000)) return OUTSIDE;
        if (shakes.size() == 12) return FULL;
        Guess g = new Guess(x, y, z, s, kind);
        for (House a : houses) {
            int way = wayOf(a, g);
            if (a.ball == NONE && dropOf(a, g) >= 0) a.ball = dropOf(a, g);
            for (Pillar p : a.pillars)
                if (p.fell == NONE && force(a, g) >= need(p, way)) p.fell = fallWay(p, way);
            if (a.wound && a.reads == null && force(a, g) >= a.stop) a.reads = t + delay(a, g) + a.off;
        }
        return was(x, y, s, t);
    }

    // ---- 2 the book

    public int report(int kind, int h, int p, int v) {
        if (noHouse(h)) return UNKNOWN;
        if (!in(kind, 0, 4)) return OUTSIDE;
        if (kind == 1 && !in(p, 0, houses.get(h).pillars.size() - 1)) return UNKNOWN;
        int[][] range = {{-1, 7}, {-2, 8}, {-1000, 1001000}, {1, 240}, {1, 240}};
        if (!in(v, range[kind][0], range[kind][1])) return OUTSIDE;
        if (reports.size() == 40) return FULL;
        Report r = new Report();
        r.kind = kind;
        r.house = h;
        r.pillar = kind == 1 ? p : NONE;
        r.v = v;
        reports.add(r);
        return reports.size() - 1;
    }

    public int look(int h) {
        if (noHouse(h)) return UNKNOWN;
        House a = houses.get(h);
        int n = 1 + a.pillars.size() + (a.reads != null ? 1 : 0);
        if (reports.size() + n > 40) return FULL;
        report(0, h, 0, a.ball == NONE ? -1 : a.ball);
        for (int p = 0; p < a.pillars.size(); p++)
            report(1, h, p, a.pillars.get(p).fell == NONE ? -2 : a.pillars.get(p).fell);
        if (a.reads != null) report(2, h, 0, a.reads);
        return n;
    }

    public int turn(int r, boolean is) {
        if (!in(r, 0, reports.size() - 1)) return UNKNOWN;
        boolean changed = reports.get(r).on != is;
        reports.get(r).on = is;
        return changed ? 1 : 0;
    }

    public int told(int r, int what) {
        if (!in(r, 0, reports.size() - 1) || !in(what, 0, 4)) return -99;
        Report q = reports.get(r);
        return new int[] {q.kind, q.house, q.pillar, q.v, q.on ? 1 : 0}[what];
    }

    public int forget() {
        int n = reports.size();
        reports.clear();
        return n;
    }

    /** Whether a report is so, of a guess, at a time. */
    private boolean so(Report r, Guess g, int time) {
        House a = houses.get(r.house);
        int force = force(a, g);
        switch (r.kind) {
            case 0: return dropOf(a, g) == r.v;
            case 1:
                Pillar p = a.pillars.get(r.pillar);
                int way = wayOf(a, g);
                boolean falls = force >= need(p, way);
                if (r.v == -2) return !falls;
                return falls && (r.v == -1 || r.v == fallWay(p, way));
            case 2: return force >= a.stop && Math.abs(time + delay(a, g) - (r.v - a.off)) <= a.slip;
            case 3: return force >= r.v;
            default: return force < r.v;
        }
    }

    /** All times at which something begins or ends to be so, and the first and last of all. */
    private TreeSet<Integer> times(Guess g, List<Report> of) {
        TreeSet<Integer> times = new TreeSet<>(List.of(0, 1000000));
        for (Report r : of) {
            if (r.kind == 2) {
                House a = houses.get(r.house);
                for (int side = -1; side <= 1; side += 2) {
                    int t = r.v - a.off - delay(a, g) + side * a.slip;
                    if (in(t, 0, 1000000)) times.add(t);
                }
            }
        }
        return times;
    }

    private boolean allSo(List<Report> of, Guess g, int time) {
        for (Report r : of) if (!so(r, g, time)) return false;
        return true;
    }

    private List<Report> on() {
        List<Report> on = new ArrayList<>();
        for (Report r : reports) if (r.on) on.add(r);
        return on;
    }

    private boolean timelessSo(List<Report> of, Guess g) {
        for (Report r : of) if (r.kind != 2 && !so(r, g, 0)) return false;
        return true;
    }

    private boolean fitsOne(List<Report> of, Guess g) {
        if (!timelessSo(of, g)) return false;
        for (int t : times(g, of)) if (allSo(of, g, t)) return true;
        return false;
    }

    private List<Guess> fitting(List<Report> of) {
        List<Guess> found = new ArrayList<>();
        for (Guess g : GUESSES) if (fitsOne(of, g)) found.add(g);
        return found;
    }

    public int fits() {
        return fitting(on()).size();
    }

    private static int part(Guess g, int what) {
        return new int[] {g.x, g.y, g.z, g.s, g.kind}[what];
    }

    public int fit(int i, int what) {
        List<Guess> found = fitting(on());
        if (!in(i, 0, found.size() - 1)) return UNKNOWN;
        return in(what, 0, 4) ? part(found.get(i), what) : OUTSIDE;
    }

    public int span(int what, int end) {
        if (!in(what, 0, 5) || !in(end, 0, 1)) return OUTSIDE;
        TreeSet<Integer> all = new TreeSet<>();
        for (Guess g : fitting(on())) {
            if (what < 5) all.add(part(g, what));
            else for (int t : times(g, on())) if (allSo(on(), g, t)) all.add(t);
        }
        if (all.isEmpty()) return STATE;
        return end == 0 ? all.first() : all.last();
    }

    public int way(int h) {
        if (noHouse(h)) return UNKNOWN;
        TreeSet<Integer> all = new TreeSet<>();
        for (Guess g : fitting(on())) all.add(wayOf(houses.get(h), g));
        if (all.isEmpty()) return STATE;
        return all.size() == 1 ? all.first() : NONE;
    }

    private Near near() {
        List<Report> on = on();
        Near best = null;
        for (Guess g : GUESSES) {
            for (int t : times(g, on)) {
                int wrong = 0;
                for (Report r : on) if (!so(r, g, t)) wrong++;
                if (best == null || wrong < best.wrong) best = new Near(g, t, wrong);
            }
        }
        return best;
    }

    public int nearest(int what) {
        if (!in(what, 0, 6)) return OUTSIDE;
        Near best = near();
        return what < 5 ? part(best.guess, what) : what == 5 ? best.time : best.wrong;
    }

    public int wrong(int r) {
        if (!in(r, 0, reports.size() - 1)) return UNKNOWN;
        if (!reports.get(r).on) return 0;
        Near best = near();
        return so(reports.get(r), best.guess, best.time) ? 0 : 1;
    }

    public int mistaken() {
        if (!fitting(on()).isEmpty()) return 0;
        int bits = 0;
        for (int h = 0; h < houses.size(); h++) {
            List<Report> others = new ArrayList<>();
            for (Report r : on()) if (r.house != h) others.add(r);
            if (others.size() < on().size() && !fitting(others).isEmpty()) bits |= 1 << h;
        }
        return bits;
    }

    public int cart(int r) {
        if (!in(r, 0, reports.size() - 1)) return UNKNOWN;
        Report drop = reports.get(r);
        if (!drop.on || drop.kind != 0 || drop.v < 0) return STATE;
        List<Report> own = new ArrayList<>();
        TreeSet<Integer> quiet = new TreeSet<>();
        for (Report q : on()) {
            if (q.house == drop.house) own.add(q);
            else if (q.kind == 0 && q.v == -1) quiet.add(q.house);
        }
        for (Guess g : fitting(own)) {
            boolean leavesAll = true;
            for (int h : quiet) leavesAll &= dropOf(houses.get(h), g) == -1;
            if (leavesAll) return 0;
        }
        return 1;
    }

    // ---- 3 what next

    public int next(int v, int what) {
        if (!in(v, 1, 240) || !in(what, 0, 2)) return OUTSIDE;
        List<Guess> found = fitting(on());
        if (found.isEmpty()) return STATE;
        int[] best = null;
        for (int x = 0; x < 12; x++) {
            for (int y = 0; y < 12; y++) {
                House a = new House();
                a.x = x;
                a.y = y;
                a.jar = v;
                int[] count = new int[9];
                for (Guess g : found) count[dropOf(a, g) + 1]++;
                int worst = 0;
                for (int c : count) worst = Math.max(worst, c);
                if (best == null || worst < best[2]) best = new int[] {x, y, worst};
            }
        }
        return best[what];
    }

    public int which(int h, int k, int sheet, int lane, int i, int n, int what) {
        fault = 0;
        if (noHouse(h) || !in(sheet, 0, 3)) return UNKNOWN;
        if (!in(lane, 0, 2) || !in(k, 1, 3) || !in(what, 0, 1)) return OUTSIDE;
        int flaw = cellFault(sheet, lane, i, n, 1);
        if (flaw != 0) return fail(flaw);
        if (!in(n, k, 8)) return OUTSIDE;
        for (int j = 0; j < n; j++) if (!in(cellAt(sheet, i + j), 1, 240)) return OUTSIDE;
        List<Guess> found = fitting(on());
        if (found.isEmpty()) return STATE;
        int best = -1, least = Integer.MAX_VALUE;
        for (int choice = 0; choice < 1 << n; choice++) {
            if (Integer.bitCount(choice) != k) continue;
            Map<Integer, Integer> count = new HashMap<>();
            int worst = 0;
            for (Guess g : found) {
                int falls = 0;
                for (int j = 0; j < n; j++)
                    if ((choice >> j & 1) == 1 && force(houses.get(h), g) >= cellAt(sheet, i + j))
                        falls |= 1 << j;
                worst = Math.max(worst, count.merge(falls, 1, Integer::sum));
            }
            if (worst < least) {
                least = worst;
                best = choice;
            }
        }
        return what == 0 ? best : least;
    }

    // ---- 4 the row

    public int was(int x, int y, int s, int t) {
        if (!in(x, 0, 11) || !in(y, 0, 11) || !in(s, 1, 12) || !in(t, 0, 1000000)) return OUTSIDE;
        if (shakes.size() == 12) return FULL;
        shakes.add(new Shake(x, y, s, t));
        return shakes.size() - 1;
    }

    private int parent(int k) {
        Shake one = shakes.get(k);
        List<Integer> from = new ArrayList<>();
        for (int j = 0; j < shakes.size(); j++) {
            Shake other = shakes.get(j);
            boolean ahead = other.t < one.t || other.t == one.t && j < k;
            int dx = one.x - other.x, dy = one.y - other.y;
            if (ahead && other.s > one.s && dx * dx + dy * dy <= 2 * other.s && one.t - other.t <= 30 * other.s)
                from.add(j);
        }
        from.sort((a, b) -> {
            Shake p = shakes.get(a), q = shakes.get(b);
            return p.s != q.s ? q.s - p.s : p.t != q.t ? q.t - p.t : b - a;
        });
        return from.isEmpty() ? NONE : from.get(0);
    }

    private int first(int k) {
        return parent(k) == NONE ? k : first(parent(k));
    }

    public int row(int k, int what) {
        if (!in(k, 0, shakes.size() - 1)) return UNKNOWN;
        if (!in(what, 0, 7)) return OUTSIDE;
        Shake one = shakes.get(k);
        int children = 0, family = 0;
        for (int j = 0; j < shakes.size(); j++) {
            if (parent(j) == k) children++;
            if (first(j) == first(k)) family++;
        }
        return new int[] {one.x, one.y, one.s, one.t, parent(k), first(k), children, family}[what];
    }

    public int families(int what) {
        if (!in(what, 0, 1)) return OUTSIDE;
        Map<Integer, Integer> size = new HashMap<>();
        int most = 0;
        for (int k = 0; k < shakes.size(); k++) most = Math.max(most, size.merge(first(k), 1, Integer::sum));
        return what == 0 ? size.size() : most;
    }

    // ---- sheets, parts

    private static int length(Object row) {
        return java.lang.reflect.Array.getLength(row);
    }

    private static boolean isOf(Object row, int lane) {
        return lane == 0 ? row instanceof byte[] : lane == 1 ? row instanceof short[] : row instanceof int[];
    }

    private long cellAt(int k, int i) {
        return ((Number) java.lang.reflect.Array.get(sheets[k], i)).longValue();
    }

    private int cellFault(int k, int lane, int i, int n, int each) {
        Object row = sheets[k];
        if (row != null && !isOf(row, lane)) return 2;
        if (row == null) return 1;
        if (n < 0) return 4;
        for (long j = 0; j < (long) n * each; j++) if (!in(i + j, 0, length(row) - 1)) return 3;
        return 0;
    }

    public int sheet(int k, int lane, int n) {
        fault = 0;
        if (!in(k, 0, 3)) return UNKNOWN;
        if (!in(lane, 0, 2) || n > 40) return OUTSIDE;
        if (n < 0) return fail(4);
        sheets[k] = lane == 0 ? new byte[n] : lane == 1 ? new short[n] : new int[n];
        return 1;
    }

    public int lose(int k) {
        if (!in(k, 0, 3)) return UNKNOWN;
        boolean had = sheets[k] != null;
        sheets[k] = null;
        return had ? 1 : 0;
    }

    public int put(int k, int i, int v) {
        fault = 0;
        if (!in(k, 0, 3)) return UNKNOWN;
        Object row = sheets[k];
        if (row == null) return fail(1);
        if (!in(i, 0, length(row) - 1)) return fail(3);
        if (row instanceof byte[] b) b[i] = (byte) v;
        if (row instanceof short[] s) s[i] = (short) v;
        if (row instanceof int[] w) w[i] = v;
        return 1;
    }

    public long at(int k, int i, int lane) {
        fault = 0;
        if (!in(k, 0, 3) || !in(lane, 0, 2)) return LOST;
        fault = cellFault(k, lane, i, 1, 1);
        return fault != 0 ? LOST : cellAt(k, i);
    }

    private int body(int number) {
        trace = trace * 31 + number;
        return 0;
    }

    private int hut(House a) {
        return body(1) + a.jar;
    }

    private int hall(House a) {
        return body(2) + hut(a) + a.pillars.size();
    }

    private int temple(House a) {
        return body(3) + hall(a) + hut(a);
    }

    public int tell(int h) {
        if (noHouse(h)) return UNKNOWN;
        House a = houses.get(h);
        return a.kind == 0 ? hut(a) : a.kind == 1 ? hall(a) : temple(a);
    }

    public int guard(int h) {
        if (noHouse(h)) return UNKNOWN;
        House a = houses.get(h);
        return a.kind == 2 ? body(5) + 300 : body(4) + h + a.stop;
    }

    public int as(int h, int kind) {
        fault = 0;
        if (noHouse(h)) return UNKNOWN;
        if (!in(kind, 0, 2)) return OUTSIDE;
        return houses.get(h).kind >= kind ? 1 : fail(2);
    }

    public int trace() {
        return trace;
    }

    public int fault() {
        return fault;
    }

    public int many(int what) {
        if (!in(what, 0, 5)) return OUTSIDE;
        int pillars = 0, ready = 0;
        for (House a : houses) {
            pillars += a.pillars.size();
            if (a.ball == NONE) ready++;
        }
        return new int[] {houses.size(), pillars, reports.size(), on().size(), shakes.size(), ready}[what];
    }
}
