import java.util.Arrays;

/** A land of watch houses, the shakes that go through it, and the book of what was found of them. */
public final class DragonJars {
    public static final int UNKNOWN = -1, OUTSIDE = -2, STATE = -3, FULL = -4, NONE = -9;
    public static final long LOST = Long.MIN_VALUE;

    private static final int NULL_FAULT = 1, CAST_FAULT = 2, INDEX_FAULT = 3, SIZE_FAULT = 4;
    private static final int HUT = 0, HALL = 1, TEMPLE = 2;
    private static final int SIDE = 12, PLACES = 144, DEPTHS = 4, STRENGTHS = 12;
    private static final int MOST_FORCE = 240, LAST_TIME = 1000000;
    private static final int NO_WAY = 8, NO_LEAN = -1, NO_BALL = -1, FELL_SOMEHOW = -1, STANDS = -2;
    private static final int DROP = 0, PILLAR = 1, CLOCK = 2, FELT = 3, LESS = 4;

    // GUESSES are held by CELLS, one for each x, y, z; in a CELL bit 2 (s - 1) + kind stands for a
    // strength and kind. Both orders are the document's, so the first bit is the first GUESS.
    private static final int CELLS = 576, BITS = 24;
    private static final int ALL = 0xFFFFFF, LEVEL = 0x555555, UPRIGHT = 0xAAAAAA;

    private final Land land = new Land();
    private final Book book = new Book(land);
    private final Fitting fitting = new Fitting(book);
    private final FewestWrong fewest = new FewestWrong(book);
    private final Offers offers = new Offers(fitting);
    private final Chain chain = new Chain();
    private final Sheet[] sheets = new Sheet[4];
    private int trace = 0;
    private int fault = 0;

    public DragonJars() {
        for (int k = 0; k < sheets.length; k++) {
            sheets[k] = new Sheet();
        }
    }

    // ---- 1 the land

    public int house(int kind, int x, int y, int jar, int stop) {
        if (!isWithin(kind, HUT, TEMPLE) || !isPlace(x, y)) {
            return OUTSIDE;
        }
        if (!isForce(jar) || !isForce(stop)) {
            return OUTSIDE;
        }
        return land.isFull() ? FULL : land.build(kind, x, y, jar, stop);
    }

    public int pillar(int h, int width, int lean) {
        House a = land.find(h);
        if (a == null) {
            return UNKNOWN;
        }
        int refusal = a.refusalOfPillar(width, lean, 0);
        return refusal != 0 ? refusal : a.addPillar(width, lean);
    }

    public int pillars(int h, int sheet, int lane, int i, int n) {
        fault = 0;
        House a = land.find(h);
        Sheet row = findSheet(sheet);
        if (a == null || row == null) {
            return UNKNOWN;
        }
        if (!isLane(lane)) {
            return OUTSIDE;
        }
        int found = row.faultOfCells(lane, i, n, 2);
        return found != 0 ? fail(found) : raisePillars(a, row, i, n);
    }

    private static int raisePillars(House a, Sheet row, int i, int n) {
        for (int j = 0; j < n; j++) {
            int refusal = a.refusalOfPillar(row.cell(i + 2 * j), row.cell(i + 2 * j + 1), j);
            if (refusal != 0) {
                return refusal;
            }
        }
        for (int j = 0; j < n; j++) {
            a.addPillar(row.cell(i + 2 * j), row.cell(i + 2 * j + 1));
        }
        return a.pillarCount;
    }

    public int clock(int h, int off, int slip) {
        House a = land.find(h);
        if (a == null) {
            return UNKNOWN;
        }
        if (!isWithin(off, -50, 50) || !isWithin(slip, 0, 20)) {
            return OUTSIDE;
        }
        a.off = off;
        a.slip = slip;
        bookChanged();
        return 1;
    }

    public int wind(int h, boolean is) {
        House a = land.find(h);
        if (a == null) {
            return UNKNOWN;
        }
        boolean wasSo = a.wound == is;
        a.wound = is;
        return wasSo ? 0 : 1;
    }

    public int set(int h) {
        House a = land.find(h);
        return a == null ? UNKNOWN : a.setAll();
    }

    public int about(int h, int what) {
        House a = land.find(h);
        return a == null ? UNKNOWN : a.tellPart(what);
    }

    public long stopped(int h) {
        House a = land.find(h);
        return a == null || !a.clockStopped ? LOST : a.clockReads;
    }

    public int fallen(int h, int p, int what) {
        House a = land.find(h);
        if (a == null || !a.hasPillar(p)) {
            return UNKNOWN;
        }
        switch (what) {
            case 0: return a.widths[p];
            case 1: return a.leans[p];
            case 2: return a.fell[p];
            default: return OUTSIDE;
        }
    }

    public int would(int h, int x, int y, int z, int s, int kind, int what) {
        House a = land.find(h);
        if (a == null) {
            return UNKNOWN;
        }
        if (!isShake(x, y, z, s, kind)) {
            return OUTSIDE;
        }
        int far = farOf(a.x - x, a.y - y, z);
        switch (what) {
            case 0: return forceOf(far, s);
            case 1: return kind == 0 ? wayOf(a.x - x, a.y - y) : NO_WAY;
            case 2: return delayOf(far);
            default: return OUTSIDE;
        }
    }

    public int shake(int x, int y, int z, int s, int kind, int t) {
        if (!isShake(x, y, z, s, kind) || !isTime(t)) {
            return OUTSIDE;
        }
        if (chain.isFull()) {
            return FULL;
        }
        for (int h = 0; h < land.count; h++) {
            House a = land.houses[h];
            int far = farOf(a.x - x, a.y - y, z);
            int way = kind == 0 ? wayOf(a.x - x, a.y - y) : NO_WAY;
            a.suffer(forceOf(far, s), way, t + delayOf(far));
        }
        return chain.enter(x, y, s, t);
    }

    // ---- 2 the book

    public int report(int kind, int h, int p, int v) {
        House a = land.find(h);
        if (a == null) {
            return UNKNOWN;
        }
        if (!isWithin(kind, DROP, LESS)) {
            return OUTSIDE;
        }
        if (kind == PILLAR && !a.hasPillar(p)) {
            return UNKNOWN;
        }
        if (!isToldRight(kind, v)) {
            return OUTSIDE;
        }
        if (!book.hasRoom(1)) {
            return FULL;
        }
        bookChanged();
        return book.write(kind, h, kind == PILLAR ? p : NONE, v);
    }

    public int look(int h) {
        House a = land.find(h);
        if (a == null) {
            return UNKNOWN;
        }
        int seen = 1 + a.pillarCount + (a.clockStopped ? 1 : 0);
        if (!book.hasRoom(seen)) {
            return FULL;
        }
        bookChanged();
        book.write(DROP, h, NONE, a.ball == NONE ? NO_BALL : a.ball);
        for (int p = 0; p < a.pillarCount; p++) {
            book.write(PILLAR, h, p, a.fell[p] == NONE ? STANDS : a.fell[p]);
        }
        if (a.clockStopped) {
            book.write(CLOCK, h, NONE, a.clockReads);
        }
        return seen;
    }

    public int turn(int r, boolean is) {
        Report told = book.find(r);
        if (told == null) {
            return UNKNOWN;
        }
        if (told.on == is) {
            return 0;
        }
        told.on = is;
        bookChanged();
        return 1;
    }

    public int told(int r, int what) {
        Report told = book.find(r);
        return told == null ? -99 : told.tellPart(what);
    }

    public int forget() {
        int there = book.count;
        book.count = 0;
        bookChanged();
        return there;
    }

    public int fits() {
        fitting.refresh();
        return fitting.count;
    }

    public int fit(int i, int what) {
        fitting.refresh();
        if (i < 0 || i >= fitting.count) {
            return UNKNOWN;
        }
        return isWithin(what, 0, 4) ? fitting.partOfNumber(i, what) : OUTSIDE;
    }

    public int span(int what, int end) {
        if (!isWithin(what, 0, 5) || !isWithin(end, 0, 1)) {
            return OUTSIDE;
        }
        fitting.refresh();
        if (fitting.count == 0) {
            return STATE;
        }
        return end == 0 ? fitting.least[what] : fitting.greatest[what];
    }

    public int way(int h) {
        House a = land.find(h);
        if (a == null) {
            return UNKNOWN;
        }
        fitting.refresh();
        return fitting.count == 0 ? STATE : fitting.oneWayAt(a);
    }

    public int nearest(int what) {
        if (!isWithin(what, 0, 6)) {
            return OUTSIDE;
        }
        fewest.refresh();
        switch (what) {
            case 5: return fewest.time;
            case 6: return fewest.wrongs;
            default: return partOfGuess(fewest.cell, fewest.bit, what);
        }
    }

    public int wrong(int r) {
        Report told = book.find(r);
        if (told == null) {
            return UNKNOWN;
        }
        if (!told.on) {
            return 0;
        }
        fewest.refresh();
        book.weigh(fewest.cell);
        return book.isSo(r, fewest.bit, fewest.time) ? 0 : 1;
    }

    public int mistaken() {
        fitting.refresh();
        return fitting.count > 0 ? 0 : fitting.housesToLeaveOut();
    }

    public int cart(int r) {
        Report told = book.find(r);
        if (told == null) {
            return UNKNOWN;
        }
        if (!told.on || told.kind != DROP || told.value == NO_BALL) {
            return STATE;
        }
        return book.hasQuietGuess(told.house) ? 0 : 1;
    }

    /** What was found out of the BOOK holds no longer. */
    private void bookChanged() {
        fitting.known = false;
        fewest.known = false;
        offers.knownFor = 0;
    }

    // ---- 3 what next

    public int next(int v, int what) {
        if (!isForce(v) || !isWithin(what, 0, 2)) {
            return OUTSIDE;
        }
        fitting.refresh();
        if (fitting.count == 0) {
            return STATE;
        }
        offers.seekPlace(v);
        switch (what) {
            case 0: return offers.place / SIDE;
            case 1: return offers.place % SIDE;
            default: return offers.placeWorst;
        }
    }

    public int which(int h, int k, int sheet, int lane, int i, int n, int what) {
        fault = 0;
        House a = land.find(h);
        Sheet row = findSheet(sheet);
        if (a == null || row == null) {
            return UNKNOWN;
        }
        if (!isLane(lane) || !isWithin(k, 1, 3) || !isWithin(what, 0, 1)) {
            return OUTSIDE;
        }
        int found = row.faultOfCells(lane, i, n, 1);
        if (found != 0) {
            return fail(found);
        }
        if (!isWithin(n, k, 8) || !row.holdsForces(i, n)) {
            return OUTSIDE;
        }
        fitting.refresh();
        if (fitting.count == 0) {
            return STATE;
        }
        offers.countReached(a, row, i, n);
        offers.seekChoice(k, n);
        return what == 0 ? offers.choice : offers.choiceWorst;
    }

    // ---- 4 the row of shakes

    public int was(int x, int y, int s, int t) {
        if (!isPlace(x, y) || !isWithin(s, 1, STRENGTHS) || !isTime(t)) {
            return OUTSIDE;
        }
        return chain.isFull() ? FULL : chain.enter(x, y, s, t);
    }

    public int row(int k, int what) {
        if (k < 0 || k >= chain.count) {
            return UNKNOWN;
        }
        switch (what) {
            case 0: return chain.xs[k];
            case 1: return chain.ys[k];
            case 2: return chain.strengths[k];
            case 3: return chain.times[k];
            case 4: return chain.parentOf(k);
            case 5: return chain.headOf(k);
            case 6: return chain.childrenOf(k);
            case 7: return chain.familySize(chain.headOf(k));
            default: return OUTSIDE;
        }
    }

    public int families(int what) {
        switch (what) {
            case 0: return chain.countHeads();
            case 1: return chain.greatestFamily();
            default: return OUTSIDE;
        }
    }

    // ---- sheets, parts

    public int sheet(int k, int lane, int n) {
        fault = 0;
        Sheet row = findSheet(k);
        if (row == null) {
            return UNKNOWN;
        }
        if (!isLane(lane) || n > Sheet.MOST) {
            return OUTSIDE;
        }
        if (n < 0) {
            return fail(SIZE_FAULT);
        }
        row.renew(lane, n);
        return 1;
    }

    public int lose(int k) {
        Sheet row = findSheet(k);
        if (row == null) {
            return UNKNOWN;
        }
        boolean had = row.hasRow;
        row.hasRow = false;
        return had ? 1 : 0;
    }

    public int put(int k, int i, int v) {
        fault = 0;
        Sheet row = findSheet(k);
        if (row == null) {
            return UNKNOWN;
        }
        int found = row.faultOfCells(row.lane, i, 1, 1);
        if (found != 0) {
            return fail(found);
        }
        row.write(i, v);
        return 1;
    }

    public long at(int k, int i, int lane) {
        fault = 0;
        Sheet row = findSheet(k);
        if (row == null || !isLane(lane)) {
            return LOST;
        }
        fault = row.faultOfCells(lane, i, 1, 1);
        return fault != 0 ? LOST : row.cell(i);
    }

    public int tell(int h) {
        House a = land.find(h);
        if (a == null) {
            return UNKNOWN;
        }
        switch (a.kind) {
            case HUT: return tellHut(a);
            case HALL: return tellHall(a);
            default: return tellTemple(a);
        }
    }

    private int tellHut(House a) {
        leave(1);
        return a.jar;
    }

    private int tellHall(House a) {
        leave(2);
        return tellHut(a) + a.pillarCount;
    }

    private int tellTemple(House a) {
        leave(3);
        return tellHall(a) + tellHut(a);
    }

    public int guard(int h) {
        House a = land.find(h);
        if (a == null) {
            return UNKNOWN;
        }
        if (a.kind == TEMPLE) {
            leave(5);
            return 300;
        }
        leave(4);
        return h + a.stop;
    }

    private void leave(int number) {
        trace = 31 * trace + number;
    }

    public int as(int h, int kind) {
        fault = 0;
        House a = land.find(h);
        if (a == null) {
            return UNKNOWN;
        }
        if (!isWithin(kind, HUT, TEMPLE)) {
            return OUTSIDE;
        }
        return a.kind < kind ? fail(CAST_FAULT) : 1;
    }

    public int trace() {
        return trace;
    }

    public int fault() {
        return fault;
    }

    public int many(int what) {
        switch (what) {
            case 0: return land.count;
            case 1: return land.countPillars();
            case 2: return book.count;
            case 3: return book.countOn();
            case 4: return chain.count;
            case 5: return land.countReady();
            default: return OUTSIDE;
        }
    }

    private int fail(int found) {
        fault = found;
        return -10 - found;
    }

    private Sheet findSheet(int k) {
        return k >= 0 && k < sheets.length ? sheets[k] : null;
    }

    // ---- what may be told

    private static boolean isWithin(int v, int least, int greatest) {
        return v >= least && v <= greatest;
    }

    private static boolean isPlace(int x, int y) {
        return isWithin(x, 0, SIDE - 1) && isWithin(y, 0, SIDE - 1);
    }

    private static boolean isForce(int v) {
        return isWithin(v, 1, MOST_FORCE);
    }

    private static boolean isTime(int t) {
        return isWithin(t, 0, LAST_TIME);
    }

    private static boolean isLane(int lane) {
        return isWithin(lane, 0, 2);
    }

    private static boolean isShake(int x, int y, int z, int s, int kind) {
        return isPlace(x, y) && isWithin(z, 0, DEPTHS - 1)
            && isWithin(s, 1, STRENGTHS) && isWithin(kind, 0, 1);
    }

    private static boolean isToldRight(int kind, int v) {
        switch (kind) {
            case DROP: return isWithin(v, NO_BALL, 7);
            case PILLAR: return isWithin(v, STANDS, NO_WAY);
            case CLOCK: return isWithin(v, -1000, 1001000);
            default: return isForce(v);
        }
    }

    // ---- how the ground moves

    private static int farOf(int dx, int dy, int z) {
        return dx * dx + dy * dy + 9 * z * z;
    }

    private static int forceOf(int far, int s) {
        int by = 12 + far;
        return by > 0 ? 240 * s / by : 0;
    }

    /** How long after its TIME a SHAKE COMES. */
    private static int delayOf(int far) {
        int root = 0;
        for (int bit = 32; bit > 0; bit >>= 1) {
            if ((root + bit) * (root + bit) <= 4 * far) {
                root += bit;
            }
        }
        return root;
    }

    /** The WAY of a LEVEL SHAKE. */
    private static int wayOf(int dx, int dy) {
        int a = Math.abs(dx);
        int b = Math.abs(dy);
        if (a == 0 && b == 0) {
            return NO_WAY;
        }
        if (2 * b < a) {
            return dx > 0 ? 0 : 4;
        }
        if (2 * a < b) {
            return dy > 0 ? 2 : 6;
        }
        if (dx > 0) {
            return dy > 0 ? 1 : 7;
        }
        return dy > 0 ? 3 : 5;
    }

    /** The bits of a CELL whose strength gives this FORCE, or more, so FAR away. */
    private static int strongEnough(int far, int force) {
        if (force <= 0) {
            return ALL;
        }
        int least = (force * (12 + far) + 239) / 240;
        return least > STRENGTHS ? 0 : ALL & (ALL << (2 * (least - 1)));
    }

    private static int xOf(int cell) {
        return cell / (SIDE * DEPTHS);
    }

    private static int yOf(int cell) {
        return cell / DEPTHS % SIDE;
    }

    private static int zOf(int cell) {
        return cell % DEPTHS;
    }

    private static int partOfGuess(int cell, int bit, int what) {
        switch (what) {
            case 0: return xOf(cell);
            case 1: return yOf(cell);
            case 2: return zOf(cell);
            case 3: return bit / 2 + 1;
            default: return bit % 2;
        }
    }

    private static final class House {
        static final int MOST_PILLARS = 6;

        int kind, x, y, jar, stop, off, slip;
        boolean wound = true;
        int ball = NONE;
        boolean clockStopped = false;
        int clockReads = 0;
        int pillarCount = 0;
        final int[] widths = new int[MOST_PILLARS];
        final int[] leans = new int[MOST_PILLARS];
        final int[] fell = new int[MOST_PILLARS];

        boolean hasPillar(int p) {
            return p >= 0 && p < pillarCount;
        }

        /** Why no such PILLAR can come behind so many others; 0: it can. */
        int refusalOfPillar(int width, int lean, int others) {
            if (!isForce(width) || !isWithin(lean, NO_LEAN, 7)) {
                return OUTSIDE;
            }
            return pillarCount + others >= MOST_PILLARS ? FULL : 0;
        }

        int addPillar(int width, int lean) {
            if (pillarCount >= MOST_PILLARS) {
                return FULL;
            }
            widths[pillarCount] = width;
            leans[pillarCount] = lean;
            fell[pillarCount] = NONE;
            pillarCount++;
            return pillarCount - 1;
        }

        int needOf(int p, int way) {
            if (leans[p] == NO_LEAN || way == NO_WAY) {
                return widths[p];
            }
            int apart = (leans[p] - way) & 7;
            boolean near = apart <= 1 || apart == 7;
            return near ? widths[p] - 20 : widths[p];
        }

        int fallsTo(int p, int way) {
            if (way != NO_WAY) {
                return way;
            }
            return leans[p] != NO_LEAN ? leans[p] : NO_WAY;
        }

        void suffer(int force, int way, int comes) {
            if (ball == NONE && way != NO_WAY && force >= jar) {
                ball = way;
            }
            for (int p = 0; p < pillarCount; p++) {
                if (fell[p] == NONE && force >= needOf(p, way)) {
                    fell[p] = fallsTo(p, way);
                }
            }
            if (wound && !clockStopped && force >= stop) {
                clockStopped = true;
                clockReads = comes + off;
            }
        }

        int setAll() {
            int before = (ball != NONE ? 1 : 0) + countFallen() + (clockStopped ? 1 : 0);
            ball = NONE;
            clockStopped = false;
            Arrays.fill(fell, NONE);
            return before;
        }

        int countFallen() {
            int fallen = 0;
            for (int p = 0; p < pillarCount; p++) {
                if (fell[p] != NONE) {
                    fallen++;
                }
            }
            return fallen;
        }

        int tellPart(int what) {
            switch (what) {
                case 0: return kind;
                case 1: return x;
                case 2: return y;
                case 3: return jar;
                case 4: return stop;
                case 5: return off;
                case 6: return slip;
                case 7: return wound ? 1 : 0;
                case 8: return pillarCount;
                case 9: return ball;
                case 10: return countFallen();
                case 11: return clockStopped ? 1 : 0;
                default: return OUTSIDE;
            }
        }
    }

    private static final class Land {
        static final int MOST = 8;

        final House[] houses = new House[MOST];
        int count = 0;

        Land() {
            for (int h = 0; h < MOST; h++) {
                houses[h] = new House();
            }
        }

        boolean isFull() {
            return count >= MOST;
        }

        House find(int h) {
            return h >= 0 && h < count ? houses[h] : null;
        }

        int build(int kind, int x, int y, int jar, int stop) {
            if (isFull()) {
                return FULL;
            }
            House a = houses[count];
            a.kind = kind;
            a.x = x;
            a.y = y;
            a.jar = jar;
            a.stop = stop;
            count++;
            return count - 1;
        }

        int countPillars() {
            int pillars = 0;
            for (int h = 0; h < count; h++) {
                pillars += houses[h].pillarCount;
            }
            return pillars;
        }

        int countReady() {
            int ready = 0;
            for (int h = 0; h < count; h++) {
                if (houses[h].ball == NONE) {
                    ready++;
                }
            }
            return ready;
        }
    }

    private static final class Report {
        int kind, house, pillar, value;
        boolean on;

        int tellPart(int what) {
            switch (what) {
                case 0: return kind;
                case 1: return house;
                case 2: return pillar;
                case 3: return value;
                case 4: return on ? 1 : 0;
                default: return -99;
            }
        }
    }

    /** THE BOOK, and what its REPORTS that are ON say of the CELL that was weighed last. */
    private static final class Book {
        static final int MOST = 40;
        static final int NO_HOUSE = -1;

        final Land land;
        final Report[] reports = new Report[MOST];
        int count = 0;

        // Of each HOUSE, seen from the CELL.
        final int[] fars = new int[Land.MOST];
        final int[] ways = new int[Land.MOST];
        final int[] delays = new int[Land.MOST];

        // Of each REPORT: the bits for which it is so, and from when until when.
        final int[] so = new int[MOST];
        final int[] from = new int[MOST];
        final int[] until = new int[MOST];

        // The TIMES of what bitsThatFit() found.
        int first = 0;
        int last = LAST_TIME;

        Book(Land land) {
            this.land = land;
            for (int r = 0; r < MOST; r++) {
                reports[r] = new Report();
            }
        }

        Report find(int r) {
            return r >= 0 && r < count ? reports[r] : null;
        }

        boolean hasRoom(int more) {
            return count + more <= MOST;
        }

        int write(int kind, int house, int pillar, int value) {
            if (!hasRoom(1)) {
                return FULL;
            }
            Report told = reports[count];
            told.kind = kind;
            told.house = house;
            told.pillar = pillar;
            told.value = value;
            told.on = true;
            count++;
            return count - 1;
        }

        int countOn() {
            int on = 0;
            for (int r = 0; r < count; r++) {
                if (reports[r].on) {
                    on++;
                }
            }
            return on;
        }

        boolean hasOnReport(int h) {
            for (int r = 0; r < count; r++) {
                if (reports[r].on && reports[r].house == h) {
                    return true;
                }
            }
            return false;
        }

        void weigh(int cell) {
            for (int h = 0; h < land.count; h++) {
                int dx = land.houses[h].x - xOf(cell);
                int dy = land.houses[h].y - yOf(cell);
                fars[h] = farOf(dx, dy, zOf(cell));
                ways[h] = wayOf(dx, dy);
                delays[h] = delayOf(fars[h]);
            }
            for (int r = 0; r < count; r++) {
                if (reports[r].on) {
                    weighReport(r);
                }
            }
        }

        private void weighReport(int r) {
            Report told = reports[r];
            House a = land.find(told.house);
            so[r] = 0;
            from[r] = 0;
            until[r] = LAST_TIME;
            if (a == null) {
                return;
            }
            so[r] = bitsFor(told, a, fars[told.house], ways[told.house]);
            if (told.kind == CLOCK) {
                int time = told.value - a.off - delays[told.house];
                from[r] = Math.max(0, time - a.slip);
                until[r] = Math.min(LAST_TIME, time + a.slip);
            }
        }

        private static int bitsFor(Report told, House a, int far, int way) {
            switch (told.kind) {
                case DROP: return bitsForDrop(a, far, way, told.value);
                case PILLAR:
                    return bitsForPillar(told, a, far, way) & LEVEL
                        | bitsForPillar(told, a, far, NO_WAY) & UPRIGHT;
                case CLOCK: return strongEnough(far, a.stop);
                case FELT: return strongEnough(far, told.value);
                default: return ALL & ~strongEnough(far, told.value);
            }
        }

        private static int bitsForDrop(House a, int far, int way, int ball) {
            int drops = way == NO_WAY ? 0 : strongEnough(far, a.jar) & LEVEL;
            if (ball == NO_BALL) {
                return ALL & ~drops;
            }
            return ball == way ? drops : 0;
        }

        private static int bitsForPillar(Report told, House a, int far, int way) {
            int p = told.pillar;
            if (!a.hasPillar(p)) {
                return 0;
            }
            int falls = strongEnough(far, a.needOf(p, way));
            if (told.value == STANDS) {
                return ALL & ~falls;
            }
            return told.value == FELL_SOMEHOW || told.value == a.fallsTo(p, way) ? falls : 0;
        }

        boolean isSo(int r, int bit, int time) {
            return (so[r] >> bit & 1) == 1 && from[r] <= time && time <= until[r];
        }

        /** The bits that FIT the REPORTS of a HOUSE, or those of all others (NO_HOUSE: of all). */
        int bitsThatFit(int h, boolean others) {
            int bits = ALL;
            first = 0;
            last = LAST_TIME;
            for (int r = 0; r < count; r++) {
                if (reports[r].on && (reports[r].house == h) != others) {
                    bits &= so[r];
                    first = Math.max(first, from[r]);
                    last = Math.min(last, until[r]);
                }
            }
            return first <= last ? bits : 0;
        }

        /** Whether a GUESS FITS a HOUSE's REPORTS and no JAR DROPS where others tell of none. */
        boolean hasQuietGuess(int h) {
            for (int cell = 0; cell < CELLS; cell++) {
                weigh(cell);
                if ((bitsThatFit(h, false) & bitsOfSilence(h)) != 0) {
                    return true;
                }
            }
            return false;
        }

        private int bitsOfSilence(int h) {
            int bits = ALL;
            for (int r = 0; r < count; r++) {
                Report told = reports[r];
                boolean tellsOfNone = told.on && told.kind == DROP && told.value == NO_BALL;
                if (tellsOfNone && told.house != h) {
                    bits &= so[r];
                }
            }
            return bits;
        }
    }

    /** The GUESSES that FIT, and their SPANS. */
    private static final class Fitting {
        final Book book;
        final int[] bits = new int[CELLS];
        final int[] least = new int[6];
        final int[] greatest = new int[6];
        int count = 0;
        boolean known = false;

        Fitting(Book book) {
            this.book = book;
        }

        void refresh() {
            if (known) {
                return;
            }
            known = true;
            count = 0;
            Arrays.fill(least, Integer.MAX_VALUE);
            Arrays.fill(greatest, Integer.MIN_VALUE);
            for (int cell = 0; cell < CELLS; cell++) {
                book.weigh(cell);
                bits[cell] = book.bitsThatFit(Book.NO_HOUSE, true);
                if (bits[cell] != 0) {
                    count += Integer.bitCount(bits[cell]);
                    widenByCell(cell);
                }
            }
        }

        private void widenByCell(int cell) {
            int low = Integer.numberOfTrailingZeros(bits[cell]);
            int high = 31 - Integer.numberOfLeadingZeros(bits[cell]);
            for (int what = 0; what <= 3; what++) {
                widen(what, partOfGuess(cell, low, what), partOfGuess(cell, high, what));
            }
            widen(4, (bits[cell] & LEVEL) != 0 ? 0 : 1, (bits[cell] & UPRIGHT) != 0 ? 1 : 0);
            widen(5, book.first, book.last);
        }

        private void widen(int what, int low, int high) {
            least[what] = Math.min(least[what], low);
            greatest[what] = Math.max(greatest[what], high);
        }

        int partOfNumber(int i, int what) {
            int left = i;
            for (int cell = 0; cell < CELLS; cell++) {
                int here = Integer.bitCount(bits[cell]);
                if (left < here) {
                    return partOfGuess(cell, bitOfNumber(bits[cell], left), what);
                }
                left -= here;
            }
            return UNKNOWN;
        }

        private static int bitOfNumber(int mask, int i) {
            int left = i;
            for (int bit = 0; bit < BITS; bit++) {
                if ((mask >> bit & 1) == 1) {
                    if (left == 0) {
                        return bit;
                    }
                    left--;
                }
            }
            return 0;
        }

        int oneWayAt(House a) {
            int one = NONE;
            for (int cell = 0; cell < CELLS; cell++) {
                int way = wayOf(a.x - xOf(cell), a.y - yOf(cell));
                if ((bits[cell] & LEVEL) != 0) {
                    if (one != NONE && one != way) {
                        return NONE;
                    }
                    one = way;
                }
                if ((bits[cell] & UPRIGHT) != 0) {
                    if (one != NONE && one != NO_WAY) {
                        return NONE;
                    }
                    one = NO_WAY;
                }
            }
            return one;
        }

        /** The HOUSES without whose REPORTS a GUESS FITS, as bits. */
        int housesToLeaveOut() {
            int asked = 0;
            for (int h = 0; h < book.land.count; h++) {
                if (book.hasOnReport(h)) {
                    asked |= 1 << h;
                }
            }
            int found = 0;
            for (int cell = 0; cell < CELLS && found != asked; cell++) {
                book.weigh(cell);
                found |= housesToLeaveOutHere(asked & ~found);
            }
            return found;
        }

        private int housesToLeaveOutHere(int asked) {
            int found = 0;
            for (int h = 0; h < book.land.count; h++) {
                if ((asked >> h & 1) == 1 && book.bitsThatFit(h, true) != 0) {
                    found |= 1 << h;
                }
            }
            return found;
        }
    }

    /** The GUESS with the FEWEST WRONG. */
    private static final class FewestWrong {
        final Book book;
        boolean known = false;
        int cell = 0, bit = 0, time = 0, wrongs = 0;

        // The CLOCKS (by REPORT) that were timed last, how many go together at best, and when.
        long timed = 0;
        int together = 0;
        int bestTime = 0;

        FewestWrong(Book book) {
            this.book = book;
        }

        void refresh() {
            if (known) {
                return;
            }
            known = true;
            wrongs = Book.MOST + 1;
            for (int c = 0; c < CELLS && wrongs > 0; c++) {
                book.weigh(c);
                timeClocks(0);
                for (int b = 0; b < BITS && wrongs > 0; b++) {
                    weighGuess(c, b);
                }
            }
        }

        private void weighGuess(int c, int b) {
            int never = countNeverSo(b);
            if (never >= wrongs) {
                return;
            }
            long clocks = clocksThatStop(b);
            if (clocks != timed) {
                timeClocks(clocks);
            }
            int here = never + Long.bitCount(clocks) - together;
            if (here < wrongs) {
                wrongs = here;
                cell = c;
                bit = b;
                time = bestTime;
            }
        }

        /** How many are not so at any TIME; what is no less than the fewest is not counted on. */
        private int countNeverSo(int b) {
            int never = 0;
            for (int r = 0; r < book.count && never < wrongs; r++) {
                if (book.reports[r].on && (book.so[r] >> b & 1) == 0) {
                    never++;
                }
            }
            return never;
        }

        private long clocksThatStop(int b) {
            long clocks = 0;
            for (int r = 0; r < book.count; r++) {
                Report told = book.reports[r];
                if (told.on && told.kind == CLOCK && (book.so[r] >> b & 1) == 1) {
                    clocks |= 1L << r;
                }
            }
            return clocks;
        }

        // The most go together first at TIME 0, or where one of them begins to be so.
        private void timeClocks(long clocks) {
            timed = clocks;
            bestTime = 0;
            together = countAt(clocks, 0);
            for (int r = 0; r < book.count; r++) {
                if ((clocks >> r & 1) == 1) {
                    tryTime(clocks, book.from[r]);
                }
            }
        }

        private void tryTime(long clocks, int t) {
            if (t > LAST_TIME) {
                return;
            }
            int here = countAt(clocks, t);
            if (here > together || here == together && t < bestTime) {
                together = here;
                bestTime = t;
            }
        }

        private int countAt(long clocks, int t) {
            int so = 0;
            for (int r = 0; r < book.count; r++) {
                if ((clocks >> r & 1) == 1 && book.from[r] <= t && t <= book.until[r]) {
                    so++;
                }
            }
            return so;
        }
    }

    /** WHERE NEXT: what another JAR, or some PILLARS, would tell of the GUESSES that FIT. */
    private static final class Offers {
        static final int MOST_WIDTHS = 8;

        final Fitting fitting;
        int knownFor = 0;
        int place = 0;
        int placeWorst = 0;
        int choice = 0;
        int choiceWorst = 0;
        final int[] drops = new int[8];
        final int[] reached = new int[MOST_WIDTHS];

        Offers(Fitting fitting) {
            this.fitting = fitting;
        }

        void seekPlace(int v) {
            if (knownFor == v) {
                return;
            }
            knownFor = v;
            placeWorst = Integer.MAX_VALUE;
            for (int p = 0; p < PLACES; p++) {
                int worst = worstOfJar(p / SIDE, p % SIDE, v);
                if (worst < placeWorst) {
                    placeWorst = worst;
                    place = p;
                }
            }
        }

        private int worstOfJar(int x, int y, int v) {
            Arrays.fill(drops, 0);
            for (int middle = 0; middle < PLACES; middle++) {
                int dx = x - middle / SIDE;
                int dy = y - middle % SIDE;
                int way = wayOf(dx, dy);
                if (way != NO_WAY) {
                    drops[way] += countDrops(middle, dx, dy, v);
                }
            }
            int worst = 0;
            int silent = fitting.count;
            for (int way = 0; way < drops.length; way++) {
                worst = Math.max(worst, drops[way]);
                silent -= drops[way];
            }
            return Math.max(worst, silent);
        }

        private int countDrops(int middle, int dx, int dy, int v) {
            int found = 0;
            for (int z = 0; z < DEPTHS; z++) {
                int level = fitting.bits[middle * DEPTHS + z] & LEVEL;
                if (level != 0) {
                    found += Integer.bitCount(level & strongEnough(farOf(dx, dy, z), v));
                }
            }
            return found;
        }

        /** Of each WIDTH offered, for how many GUESSES a PILLAR of it falls. */
        void countReached(House a, Sheet row, int i, int n) {
            for (int j = 0; j < n && j < MOST_WIDTHS; j++) {
                int width = row.cell(i + j);
                reached[j] = 0;
                for (int cell = 0; cell < CELLS; cell++) {
                    int bits = fitting.bits[cell];
                    if (bits != 0) {
                        int far = farOf(a.x - xOf(cell), a.y - yOf(cell), zOf(cell));
                        reached[j] += Integer.bitCount(bits & strongEnough(far, width));
                    }
                }
            }
        }

        void seekChoice(int k, int n) {
            choice = 0;
            choiceWorst = Integer.MAX_VALUE;
            for (int c = 1; c < 1 << Math.min(n, MOST_WIDTHS); c++) {
                if (Integer.bitCount(c) == k) {
                    int worst = worstOfChoice(c);
                    if (worst < choiceWorst) {
                        choiceWorst = worst;
                        choice = c;
                    }
                }
            }
        }

        // What makes a wide PILLAR fall makes all narrower ones fall: each GUESS is told from the
        // others only by where it ends in that order.
        private int worstOfChoice(int c) {
            int worst = fitting.count - nextBelow(c, fitting.count);
            for (int j = 0; j < MOST_WIDTHS; j++) {
                if ((c >> j & 1) == 1) {
                    worst = Math.max(worst, reached[j] - nextBelow(c, reached[j]));
                }
            }
            return worst;
        }

        private int nextBelow(int c, int number) {
            int below = 0;
            for (int j = 0; j < MOST_WIDTHS; j++) {
                if ((c >> j & 1) == 1 && reached[j] < number) {
                    below = Math.max(below, reached[j]);
                }
            }
            return below;
        }
    }

    /** THE ROW of SHAKES that were. */
    private static final class Chain {
        static final int MOST = 12;

        final int[] xs = new int[MOST];
        final int[] ys = new int[MOST];
        final int[] strengths = new int[MOST];
        final int[] times = new int[MOST];
        int count = 0;

        boolean isFull() {
            return count >= MOST;
        }

        int enter(int x, int y, int s, int t) {
            if (isFull()) {
                return FULL;
            }
            xs[count] = x;
            ys[count] = y;
            strengths[count] = s;
            times[count] = t;
            count++;
            return count - 1;
        }

        private boolean isLater(int k, int other) {
            return times[k] > times[other] || times[k] == times[other] && k > other;
        }

        private boolean cameOf(int k, int other) {
            if (!isLater(k, other) || strengths[other] <= strengths[k]) {
                return false;
            }
            int apart = farOf(xs[k] - xs[other], ys[k] - ys[other], 0);
            return apart <= 2 * strengths[other]
                && times[k] - times[other] <= 30 * strengths[other];
        }

        int parentOf(int k) {
            int parent = NONE;
            for (int other = 0; other < count; other++) {
                if (cameOf(k, other) && (parent == NONE || isBefore(other, parent))) {
                    parent = other;
                }
            }
            return parent;
        }

        /** Whether one goes before another as PARENT. */
        private boolean isBefore(int one, int other) {
            if (strengths[one] != strengths[other]) {
                return strengths[one] > strengths[other];
            }
            return isLater(one, other);
        }

        int headOf(int k) {
            int head = k;
            for (int step = 0; step < MOST; step++) {
                int parent = parentOf(head);
                if (parent == NONE) {
                    break;
                }
                head = parent;
            }
            return head;
        }

        int childrenOf(int k) {
            int children = 0;
            for (int other = 0; other < count; other++) {
                if (parentOf(other) == k) {
                    children++;
                }
            }
            return children;
        }

        int familySize(int head) {
            int size = 0;
            for (int k = 0; k < count; k++) {
                if (headOf(k) == head) {
                    size++;
                }
            }
            return size;
        }

        int countHeads() {
            int heads = 0;
            for (int k = 0; k < count; k++) {
                if (parentOf(k) == NONE) {
                    heads++;
                }
            }
            return heads;
        }

        int greatestFamily() {
            int greatest = 0;
            for (int k = 0; k < count; k++) {
                greatest = Math.max(greatest, familySize(k));
            }
            return greatest;
        }
    }

    private static final class Sheet {
        static final int MOST = 40;

        final int[] cells = new int[MOST];
        boolean hasRow = false;
        int lane = 0;
        int length = 0;

        void renew(int newLane, int n) {
            hasRow = true;
            lane = newLane;
            length = n;
            Arrays.fill(cells, 0);
        }

        int cell(int i) {
            return i >= 0 && i < cells.length ? cells[i] : 0;
        }

        void write(int i, int v) {
            if (i < 0 || i >= cells.length) {
                return;
            }
            switch (lane) {
                case 0: cells[i] = (byte) v; break;
                case 1: cells[i] = (short) v; break;
                default: cells[i] = v;
            }
        }

        /** The first FAULT of taking n things, of so many cells each, from i on; 0: none. */
        int faultOfCells(int asLane, int i, int n, int each) {
            if (!hasRow) {
                return NULL_FAULT;
            }
            if (lane != asLane) {
                return CAST_FAULT;
            }
            if (n < 0) {
                return SIZE_FAULT;
            }
            boolean allThere = n == 0 || i >= 0 && (long) i + (long) n * each <= length;
            return allThere ? 0 : INDEX_FAULT;
        }

        boolean holdsForces(int i, int n) {
            for (int j = 0; j < n; j++) {
                if (!isForce(cell(i + j))) {
                    return false;
                }
            }
            return true;
        }
    }
}
