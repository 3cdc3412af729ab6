/** Promises 1 to 12, but pillars() (SheetTest): a new object, and the land. */
public final class LandTest {
    private static final int UNKNOWN = DragonJars.UNKNOWN, OUTSIDE = DragonJars.OUTSIDE,
        FULL = DragonJars.FULL, NONE = DragonJars.NONE;
    private static final Check CHECK = new Check("LandTest");

    public static void main(String[] args) {
        newObject();
        house();
        pillar();
        clock();
        wind();
        setAndAbout();
        stopped();
        fallen();
        wouldForce();
        wouldWay();
        wouldRefuse();
        shakeDrops();
        shakeFells();
        shakeStops();
        shakeRefuses();
        CHECK.finish();
    }

    private static void due(String call, long got, long want) {
        CHECK.due(call, got, want);
    }

    private static void newObject() {
        DragonJars x = new DragonJars();
        for (int what = 0; what <= 5; what++) {
            due("1 many(" + what + ")", x.many(what), 0);
        }
        for (int k = 0; k < 4; k++) {
            due("1 lose(" + k + ")", x.lose(k), 0);
        }
        due("1 fault()", x.fault(), 0);
        due("1 trace()", x.trace(), 0);
        due("1 about(0, 0)", x.about(0, 0), UNKNOWN);
        due("1 told(0, 0)", x.told(0, 0), -99);
        due("1 row(0, 0)", x.row(0, 0), UNKNOWN);
        due("1 fits()", x.fits(), 13824);
    }

    private static void house() {
        DragonJars x = new DragonJars();
        int[][] bad = {
            {-1, 0, 0, 1, 1}, {3, 0, 0, 1, 1}, {0, -1, 0, 1, 1}, {0, 12, 0, 1, 1}, {0, 0, -1, 1, 1},
            {0, 0, 12, 1, 1}, {0, 0, 0, 0, 1}, {0, 0, 0, 241, 1}, {0, 0, 0, 1, 0}, {0, 0, 0, 1, 241},
            {Integer.MIN_VALUE, 0, 0, 1, 1}, {0, Integer.MAX_VALUE, 0, 1, 1},
        };
        for (int[] b : bad) {
            due("2 house, outside", x.house(b[0], b[1], b[2], b[3], b[4]), OUTSIDE);
        }
        due("2 many(0)", x.many(0), 0);
        due("2 house(2, 11, 0, 240, 1)", x.house(2, 11, 0, 240, 1), 0);
        due("2 house(0, 0, 11, 1, 240)", x.house(0, 0, 11, 1, 240), 1);
        int[] first = {2, 11, 0, 240, 1, 0, 0, 1, 0, NONE, 0, 0};
        int[] second = {0, 0, 11, 1, 240, 0, 0, 1, 0, NONE, 0, 0};
        for (int what = 0; what < 12; what++) {
            due("2 about(0, " + what + ")", x.about(0, what), first[what]);
            due("2 about(1, " + what + ")", x.about(1, what), second[what]);
        }
        for (int h = 2; h < 8; h++) {
            due("2 house", x.house(1, h, h, 5, 5), h);
        }
        due("2 house, full", x.house(0, 0, 0, 1, 1), FULL);
        due("2 house, outside ahead of full", x.house(0, 0, 0, 0, 1), OUTSIDE);
        due("2 many(0)", x.many(0), 8);
    }

    private static void pillar() {
        DragonJars x = new DragonJars();
        due("3 pillar, no house", x.pillar(0, 0, 9), UNKNOWN);
        x.house(0, 5, 5, 1, 1);
        due("3 pillar(-1, 1, 0)", x.pillar(-1, 1, 0), UNKNOWN);
        due("3 pillar(1, 1, 0)", x.pillar(1, 1, 0), UNKNOWN);
        due("3 pillar(0, 0, 0)", x.pillar(0, 0, 0), OUTSIDE);
        due("3 pillar(0, 241, 0)", x.pillar(0, 241, 0), OUTSIDE);
        due("3 pillar(0, 1, -2)", x.pillar(0, 1, -2), OUTSIDE);
        due("3 pillar(0, 1, 8)", x.pillar(0, 1, 8), OUTSIDE);
        due("3 pillar(0, 1, -1)", x.pillar(0, 1, -1), 0);
        due("3 pillar(0, 240, 7)", x.pillar(0, 240, 7), 1);
        for (int p = 2; p < 6; p++) {
            due("3 pillar", x.pillar(0, p, p), p);
        }
        due("3 pillar, full", x.pillar(0, 1, 0), FULL);
        due("3 pillar, outside ahead of full", x.pillar(0, 0, 0), OUTSIDE);
        due("3 about(0, 8)", x.about(0, 8), 6);
        due("3 many(1)", x.many(1), 6);
        x.house(0, 6, 6, 1, 1);
        due("3 pillar of another", x.pillar(1, 9, 0), 0);
        due("3 many(1)", x.many(1), 7);
    }

    private static void clock() {
        DragonJars x = new DragonJars();
        due("5 clock, no house", x.clock(0, 99, 0), UNKNOWN);
        x.house(0, 0, 0, 1, 1);
        due("5 clock(0, -51, 0)", x.clock(0, -51, 0), OUTSIDE);
        due("5 clock(0, 51, 0)", x.clock(0, 51, 0), OUTSIDE);
        due("5 clock(0, 0, -1)", x.clock(0, 0, -1), OUTSIDE);
        due("5 clock(0, 0, 21)", x.clock(0, 0, 21), OUTSIDE);
        due("5 clock(0, -50, 20)", x.clock(0, -50, 20), 1);
        due("5 about(0, 5)", x.about(0, 5), -50);
        due("5 about(0, 6)", x.about(0, 6), 20);
        due("5 clock(0, 50, 0)", x.clock(0, 50, 0), 1);
        due("5 clock(0, 50, 0)", x.clock(0, 50, 0), 1);
        due("5 about(0, 5)", x.about(0, 5), 50);
        due("5 about(0, 6)", x.about(0, 6), 0);
    }

    private static void wind() {
        DragonJars x = new DragonJars();
        due("6 wind, no house", x.wind(0, true), UNKNOWN);
        x.house(0, 0, 0, 1, 1);
        due("6 wind(0, true)", x.wind(0, true), 0);
        due("6 wind(0, false)", x.wind(0, false), 1);
        due("6 about(0, 7)", x.about(0, 7), 0);
        due("6 wind(0, false)", x.wind(0, false), 0);
        due("6 wind(0, true)", x.wind(0, true), 1);
        due("6 about(0, 7)", x.about(0, 7), 1);
    }

    private static void setAndAbout() {
        DragonJars x = new DragonJars();
        due("7 set, no house", x.set(0), UNKNOWN);
        due("8 about, no house, and outside", x.about(0, 12), UNKNOWN);
        x.house(1, 5, 5, 10, 10);
        x.pillar(0, 10, -1);
        x.pillar(0, 20, -1);
        x.pillar(0, 240, -1);
        due("7 set(0)", x.set(0), 0);
        x.shake(4, 5, 0, 12, 0, 7);
        due("8 about(0, 9)", x.about(0, 9), 0);
        due("8 about(0, 10)", x.about(0, 10), 2);
        due("8 about(0, 11)", x.about(0, 11), 1);
        due("8 about(0, 8)", x.about(0, 8), 3);
        due("8 about(0, -1)", x.about(0, -1), OUTSIDE);
        due("8 about(0, 12)", x.about(0, 12), OUTSIDE);
        due("8 about(-1, 0)", x.about(-1, 0), UNKNOWN);
        due("7 many(5)", x.many(5), 0);
        due("7 set(0), the jar, two pillars, the clock", x.set(0), 4);
        due("7 set(0)", x.set(0), 0);
        due("7 about(0, 9)", x.about(0, 9), NONE);
        due("7 about(0, 10)", x.about(0, 10), 0);
        due("7 about(0, 11)", x.about(0, 11), 0);
        due("7 stopped(0)", x.stopped(0), DragonJars.LOST);
        due("7 fallen(0, 0, 2)", x.fallen(0, 0, 2), NONE);
        due("7 many(5)", x.many(5), 1);
        x.shake(6, 5, 0, 12, 0, 9);
        due("7 it drops again", x.about(0, 9), 4);
    }

    private static void stopped() {
        DragonJars x = new DragonJars();
        due("9 stopped, no house", x.stopped(0), DragonJars.LOST);
        due("9 stopped(-1)", x.stopped(-1), DragonJars.LOST);
        x.house(0, 0, 0, 240, 1);
        due("9 stopped, it runs", x.stopped(0), DragonJars.LOST);
        x.clock(0, -50, 3);
        x.shake(0, 0, 0, 1, 1, 0);
        due("9 stopped(0)", x.stopped(0), -50);
        x.clock(0, 20, 3);
        due("9 stopped(0), as it read then", x.stopped(0), -50);
    }

    private static void fallen() {
        DragonJars x = new DragonJars();
        due("10 fallen, no house", x.fallen(0, 0, 3), UNKNOWN);
        x.house(0, 0, 0, 240, 1);
        due("10 fallen, no pillar", x.fallen(0, 0, 3), UNKNOWN);
        x.pillar(0, 77, 3);
        due("10 fallen(0, -1, 0)", x.fallen(0, -1, 0), UNKNOWN);
        due("10 fallen(0, 1, 0)", x.fallen(0, 1, 0), UNKNOWN);
        due("10 fallen(0, 0, -1)", x.fallen(0, 0, -1), OUTSIDE);
        due("10 fallen(0, 0, 3)", x.fallen(0, 0, 3), OUTSIDE);
        due("10 fallen(0, 0, 0)", x.fallen(0, 0, 0), 77);
        due("10 fallen(0, 0, 1)", x.fallen(0, 0, 1), 3);
        due("10 fallen(0, 0, 2)", x.fallen(0, 0, 2), NONE);
    }

    private static void wouldForce() {
        DragonJars x = new DragonJars();
        x.house(0, 0, 0, 240, 1);
        due("11 force in the middle", x.would(0, 0, 0, 0, 12, 0, 0), 240);
        due("11 force, cut", x.would(0, 1, 0, 0, 1, 0, 0), 18);
        due("11 force, 9 z z", x.would(0, 0, 0, 1, 1, 1, 0), 11);
        due("11 force, farthest", x.would(0, 11, 11, 3, 1, 0, 0), 0);
        due("11 comes in the middle", x.would(0, 0, 0, 0, 12, 0, 2), 0);
        due("11 comes, root of 4", x.would(0, 1, 0, 0, 12, 0, 2), 2);
        due("11 comes, root of 8", x.would(0, 1, 1, 0, 12, 0, 2), 2);
        due("11 comes, root of 36", x.would(0, 0, 0, 1, 12, 1, 2), 6);
        due("11 comes, root of 1292", x.would(0, 11, 11, 3, 12, 0, 2), 35);
    }

    private static void wouldWay() {
        DragonJars x = new DragonJars();
        x.house(0, 5, 5, 240, 1);
        int[][] ways = {
            {4, 5, 0}, {6, 5, 4}, {5, 4, 2}, {5, 6, 6}, {4, 4, 1}, {6, 4, 3}, {6, 6, 5}, {4, 6, 7},
            {3, 4, 1}, {2, 4, 0}, {4, 3, 1}, {4, 2, 2}, {8, 6, 4}, {7, 6, 5}, {6, 8, 6}, {6, 7, 5},
            {8, 4, 4}, {7, 4, 3}, {2, 6, 0}, {3, 6, 7}, {5, 5, 8},
        };
        for (int[] w : ways) {
            due("11 way from " + w[0] + ", " + w[1], x.would(0, w[0], w[1], 2, 3, 0, 1), w[2]);
            due("11 way, upright", x.would(0, w[0], w[1], 2, 3, 1, 1), 8);
        }
    }

    private static void wouldRefuse() {
        DragonJars x = new DragonJars();
        due("11 would, no house", x.would(0, -1, 0, 0, 0, 0, 0), UNKNOWN);
        x.house(0, 5, 5, 240, 1);
        int[][] bad = {
            {-1, 0, 0, 1, 0, 0}, {12, 0, 0, 1, 0, 0}, {0, -1, 0, 1, 0, 0}, {0, 12, 0, 1, 0, 0},
            {0, 0, -1, 1, 0, 0}, {0, 0, 4, 1, 0, 0}, {0, 0, 0, 0, 0, 0}, {0, 0, 0, 13, 0, 0},
            {0, 0, 0, 1, -1, 0}, {0, 0, 0, 1, 2, 0}, {0, 0, 0, 1, 0, -1}, {0, 0, 0, 1, 0, 3},
        };
        for (int[] b : bad) {
            due("11 would, outside", x.would(0, b[0], b[1], b[2], b[3], b[4], b[5]), OUTSIDE);
        }
    }

    private static void shakeDrops() {
        DragonJars x = new DragonJars();
        x.house(0, 5, 5, 18, 240);
        x.house(0, 5, 5, 19, 240);
        due("12 shake", x.shake(4, 5, 0, 1, 0, 0), 0);
        due("12 dropped at just that force", x.about(0, 9), 0);
        due("12 not below it", x.about(1, 9), NONE);
        due("12 shake", x.shake(5, 4, 0, 12, 0, 1), 1);
        due("12 not ready: the first ball stays", x.about(0, 9), 0);
        due("12 the other drops now", x.about(1, 9), 2);
        x.set(1);
        x.shake(5, 4, 0, 12, 1, 2);
        due("12 upright drops nothing", x.about(1, 9), NONE);
        x.shake(5, 5, 0, 12, 0, 3);
        due("12 nor in the middle", x.about(1, 9), NONE);
        due("12 many(5)", x.many(5), 1);
        due("12 many(4)", x.many(4), 4);
    }

    private static void shakeFells() {
        DragonJars x = new DragonJars();
        x.house(0, 5, 5, 240, 240);
        x.pillar(0, 38, 7);
        x.pillar(0, 39, 0);
        x.pillar(0, 38, 2);
        x.pillar(0, 18, -1);
        x.pillar(0, 19, -1);
        x.pillar(0, 38, 1);
        x.shake(4, 5, 0, 1, 0, 0);
        int[] first = {0, NONE, NONE, 0, NONE, 0};
        for (int p = 0; p < 6; p++) {
            due("12 force 18, way 0: fallen(0, " + p + ", 2)", x.fallen(0, p, 2), first[p]);
        }
        due("12 about(0, 10)", x.about(0, 10), 3);
        x.shake(5, 5, 0, 2, 0, 0);
        int[] second = {0, 0, 2, 0, 8, 0};
        for (int p = 0; p < 6; p++) {
            due("12 force 40, no way: fallen(0, " + p + ", 2)", x.fallen(0, p, 2), second[p]);
        }
        DragonJars y = new DragonJars();
        y.house(0, 11, 11, 240, 240);
        y.pillar(0, 20, 1);
        y.pillar(0, 21, 1);
        y.shake(0, 0, 3, 1, 0, 0);
        due("12 need 0, force 0", y.fallen(0, 0, 2), 1);
        due("12 need 1, force 0", y.fallen(0, 1, 2), NONE);
    }

    private static void shakeStops() {
        DragonJars x = new DragonJars();
        x.house(0, 5, 5, 240, 18);
        x.house(0, 5, 5, 240, 19);
        x.house(0, 5, 5, 240, 18);
        x.wind(2, false);
        x.clock(0, 50, 20);
        x.shake(4, 5, 0, 1, 0, 1000000);
        due("12 stopped(0)", x.stopped(0), 1000052);
        due("12 stopped(1)", x.stopped(1), DragonJars.LOST);
        due("12 stopped(2), not wound", x.stopped(2), DragonJars.LOST);
        x.wind(2, true);
        x.shake(4, 5, 0, 1, 0, 10);
        due("12 stopped(0) stays", x.stopped(0), 1000052);
        due("12 stopped(2), wound", x.stopped(2), 12);
    }

    private static void shakeRefuses() {
        DragonJars x = new DragonJars();
        x.house(0, 5, 5, 1, 1);
        int[][] bad = {
            {-1, 0, 0, 1, 0, 0}, {12, 0, 0, 1, 0, 0}, {0, -1, 0, 1, 0, 0}, {0, 12, 0, 1, 0, 0},
            {0, 0, -1, 1, 0, 0}, {0, 0, 4, 1, 0, 0}, {0, 0, 0, 0, 0, 0}, {0, 0, 0, 13, 0, 0},
            {0, 0, 0, 1, -1, 0}, {0, 0, 0, 1, 2, 0}, {0, 0, 0, 1, 0, -1}, {0, 0, 0, 1, 0, 1000001},
        };
        for (int[] b : bad) {
            due("12 shake, outside", x.shake(b[0], b[1], b[2], b[3], b[4], b[5]), OUTSIDE);
        }
        for (int k = 0; k < 12; k++) {
            due("12 was", x.was(0, 0, 1, 0), k);
        }
        due("12 shake, full", x.shake(4, 5, 0, 12, 0, 0), FULL);
        due("12 shake, outside ahead of full", x.shake(4, 5, 0, 12, 0, -1), OUTSIDE);
        due("12 nothing came of it", x.about(0, 9), NONE);
        due("12 nothing stopped", x.about(0, 11), 0);
    }
}
