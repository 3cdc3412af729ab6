/** Promises 28 to 30 at their edges: an empty row, a full one; just near enough, just soon enough. */
public final class RowEdgesTest {
    private static final int UNKNOWN = DragonJars.UNKNOWN, OUTSIDE = DragonJars.OUTSIDE,
        FULL = DragonJars.FULL, NONE = DragonJars.NONE;
    private static final Check CHECK = new Check("RowEdgesTest");

    public static void main(String[] args) {
        emptyRow();
        wasTakesEdges();
        fullRow();
        toldAndShaken();
        justNearEnough();
        justSoonEnough();
        strongerAtLeastByOne();
        aheadAtTheSameTime();
        parentOfSeveral();
        longestChain();
        longestChainBackwards();
        onesApart();
        CHECK.finish();
    }

    private static void due(String call, long got, long want) {
        CHECK.due(call, got, want);
    }

    private static void rowIs(DragonJars x, int k, int parent, int first, int children, int family) {
        due("29 row(" + k + ", 4)", x.row(k, 4), parent);
        due("29 row(" + k + ", 5)", x.row(k, 5), first);
        due("29 row(" + k + ", 6)", x.row(k, 6), children);
        due("29 row(" + k + ", 7)", x.row(k, 7), family);
    }

    private static void emptyRow() {
        DragonJars x = new DragonJars();
        for (int what = -1; what <= 8; what++) {
            due("29 row(0, " + what + ") of none", x.row(0, what), UNKNOWN);
        }
        due("30 families(0)", x.families(0), 0);
        due("30 families(1)", x.families(1), 0);
        due("30 families(-1)", x.families(-1), OUTSIDE);
        due("30 families(2)", x.families(2), OUTSIDE);
        due("40 many(4)", x.many(4), 0);
    }

    private static void wasTakesEdges() {
        int[][] good = {{0, 0, 1, 0}, {11, 11, 12, 1000000}, {0, 11, 12, 0}, {11, 0, 1, 1000000}};
        DragonJars x = new DragonJars();
        for (int k = 0; k < good.length; k++) {
            due("28 was", x.was(good[k][0], good[k][1], good[k][2], good[k][3]), k);
            for (int what = 0; what < 4; what++) {
                due("29 row(" + k + ", " + what + ")", x.row(k, what), good[k][what]);
            }
        }
        due("28 many(4)", x.many(4), 4);
    }

    private static void fullRow() {
        DragonJars x = new DragonJars();
        for (int k = 0; k < 12; k++) {
            due("28 many(4)", x.many(4), k);
            due("28 was", x.was(k, 11 - k, 1 + k, 1000 - k), k);
        }
        due("28 the thirteenth", x.was(0, 0, 1, 0), FULL);
        due("28 outside ahead of full", x.was(0, 0, 13, 0), OUTSIDE);
        due("28 many(4)", x.many(4), 12);
        due("29 row(11, 0)", x.row(11, 0), 11);
        due("29 row(12, 0)", x.row(12, 0), UNKNOWN);
    }

    private static void toldAndShaken() {
        DragonJars x = new DragonJars();
        x.house(0, 5, 5, 1, 1);
        due("28 told", x.was(5, 4, 12, 0), 0);
        due("28 what is told goes through no land", x.about(0, 9), NONE);
        due("28 no clock stops", x.about(0, 11), 0);
        due("28 shaken", x.shake(5, 4, 3, 11, 1, 0), 1);
        rowIs(x, 0, NONE, 0, 1, 2);
        rowIs(x, 1, 0, 0, 0, 2);
    }

    /** The PARENT of one of strength 1, dx, dy and some time behind one of a strength. */
    private static int parentOf(int strength, int dx, int dy, int later) {
        DragonJars x = new DragonJars();
        x.was(11, 11, strength, 500);
        x.was(11 - dx, 11 - dy, 1, 500 + later);
        return x.row(1, 4);
    }

    private static void justNearEnough() {
        due("29 4 of 4", parentOf(2, 2, 0, 0), 0);
        due("29 5 of 4", parentOf(2, 2, 1, 0), NONE);
        due("29 8 of 8", parentOf(4, 2, 2, 0), 0);
        due("29 9 of 8", parentOf(4, 3, 0, 0), NONE);
        due("29 10 of 10", parentOf(5, 1, 3, 0), 0);
        due("29 18 of 18", parentOf(9, 3, 3, 0), 0);
        due("29 20 of 18", parentOf(9, 4, 2, 0), NONE);
        due("29 20 of 20", parentOf(10, 2, 4, 0), 0);
        due("29 25 of 24", parentOf(12, 5, 0, 0), NONE);
        due("29 20 of 24", parentOf(12, 4, 2, 0), 0);
    }

    private static void justSoonEnough() {
        for (int strength = 2; strength <= 12; strength++) {
            due("29 at once", parentOf(strength, 0, 0, 0), 0);
            due("29 30 times " + strength, parentOf(strength, 0, 0, 30 * strength), 0);
            due("29 one more", parentOf(strength, 0, 0, 30 * strength + 1), NONE);
        }
        DragonJars x = new DragonJars();
        x.was(0, 0, 12, 0);
        x.was(0, 0, 1, 1000000);
        due("29 the greatest time between", x.row(1, 4), NONE);
    }

    private static void strongerAtLeastByOne() {
        for (int strength = 1; strength <= 12; strength++) {
            DragonJars x = new DragonJars();
            x.was(3, 3, strength, 0);
            x.was(3, 3, Math.max(1, strength - 1), 1);
            x.was(3, 3, strength, 2);
            due("29 weaker by one", x.row(1, 4), strength > 1 ? 0 : NONE);
            due("29 as strong", x.row(2, 4), NONE);
            due("30 families(0)", x.families(0), strength > 1 ? 2 : 3);
        }
    }

    private static void aheadAtTheSameTime() {
        DragonJars x = new DragonJars();
        x.was(3, 3, 5, 0);
        x.was(3, 3, 9, 0);
        x.was(3, 3, 5, 0);
        due("29 a lesser number is ahead", x.row(2, 4), 1);
        due("29 a greater one is not", x.row(0, 4), NONE);
        due("29 nor any of the first", x.row(1, 4), NONE);
        due("30 families(0)", x.families(0), 2);
        due("30 families(1)", x.families(1), 2);
        DragonJars y = new DragonJars();
        y.was(3, 3, 5, 1);
        y.was(3, 3, 9, 0);
        due("29 less time is ahead, whatever its number", y.row(0, 4), 1);
        due("29 the first of them in time", y.row(0, 5), 1);
    }

    private static void parentOfSeveral() {
        DragonJars x = new DragonJars();
        x.was(3, 3, 8, 10);
        x.was(3, 3, 9, 5);
        x.was(3, 3, 1, 20);
        due("29 the strongest, not the latest", x.row(2, 4), 1);
        x.was(3, 3, 9, 4);
        due("29 of two as strong the latest, not the greatest number", x.row(2, 4), 1);
        x.was(3, 3, 9, 5);
        due("29 of two at one time the greatest number", x.row(2, 4), 4);
        x.was(3, 8, 12, 19);
        due("29 too far away is none of these", x.row(2, 4), 4);
        x.was(3, 4, 12, 20);
        due("29 at the same time, a greater number, is none of these", x.row(2, 4), 4);
    }

    /** Each just soon enough behind the one ahead of it, and too late for those ahead of that. */
    private static void longestChain() {
        DragonJars x = new DragonJars();
        int time = 0;
        for (int k = 0; k < 12; k++) {
            x.was(0, 0, 12 - k, time);
            time += 30 * (12 - k);
        }
        for (int k = 0; k < 12; k++) {
            rowIs(x, k, k == 0 ? NONE : k - 1, 0, k < 11 ? 1 : 0, 12);
        }
        due("30 families(0)", x.families(0), 1);
        due("30 families(1)", x.families(1), 12);
    }

    private static void longestChainBackwards() {
        DragonJars x = new DragonJars();
        int time = 5000;
        for (int k = 0; k < 12; k++) {
            x.was(0, 0, 1 + k, time);
            time -= 30 * (2 + k);
        }
        for (int k = 0; k < 12; k++) {
            rowIs(x, k, k == 11 ? NONE : k + 1, 11, k > 0 ? 1 : 0, 12);
        }
        due("30 families(0)", x.families(0), 1);
        due("30 families(1)", x.families(1), 12);
    }

    private static void onesApart() {
        DragonJars x = new DragonJars();
        for (int k = 0; k < 12; k++) {
            x.was(k, 0, 6, 1000);
            due("30 families(0)", x.families(0), k + 1);
            due("30 families(1)", x.families(1), 1);
        }
        for (int k = 0; k < 12; k++) {
            rowIs(x, k, NONE, k, 0, 1);
        }
    }
}
