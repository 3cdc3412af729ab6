/** Promises 28 to 30: the row of shakes. */
public final class RowTest {
    private static final int UNKNOWN = DragonJars.UNKNOWN, OUTSIDE = DragonJars.OUTSIDE,
        FULL = DragonJars.FULL, NONE = DragonJars.NONE;
    private static final Check CHECK = new Check("RowTest");

    public static void main(String[] args) {
        was();
        whoIsParent();
        whichParent();
        families();
        refusals();
        CHECK.finish();
    }

    private static void due(String call, long got, long want) {
        CHECK.due(call, got, want);
    }

    private static void was() {
        DragonJars x = new DragonJars();
        int[][] bad = {
            {-1, 0, 1, 0}, {12, 0, 1, 0}, {0, -1, 1, 0}, {0, 12, 1, 0}, {0, 0, 0, 0}, {0, 0, 13, 0},
            {0, 0, 1, -1}, {0, 0, 1, 1000001},
        };
        for (int[] b : bad) {
            due("28 was, outside", x.was(b[0], b[1], b[2], b[3]), OUTSIDE);
        }
        due("28 was(11, 3, 12, 1000000)", x.was(11, 3, 12, 1000000), 0);
        due("28 shake(1, 2, 3, 4, 0, 5)", x.shake(1, 2, 3, 4, 0, 5), 1);
        int[] first = {11, 3, 12, 1000000, NONE, 0, 0, 1};
        int[] second = {1, 2, 4, 5, NONE, 1, 0, 1};
        for (int what = 0; what < 8; what++) {
            due("29 row(0, " + what + ")", x.row(0, what), first[what]);
            due("29 row(1, " + what + ")", x.row(1, what), second[what]);
        }
        for (int k = 2; k < 12; k++) {
            due("28 was", x.was(0, 0, 1, 0), k);
        }
        due("28 full", x.was(0, 0, 1, 0), FULL);
        due("28 outside ahead of full", x.was(0, 0, 0, 0), OUTSIDE);
        due("28 many(4)", x.many(4), 12);
    }

    private static int parentOf(int x, int y, int s, int t) {
        DragonJars one = new DragonJars();
        one.was(3, 3, 5, 100);
        one.was(x, y, s, t);
        return one.row(1, 4);
    }

    private static void whoIsParent() {
        due("29 weaker, later", parentOf(3, 3, 4, 101), 0);
        due("29 at the same time, a greater number", parentOf(3, 3, 4, 100), 0);
        due("29 ahead", parentOf(3, 3, 4, 99), NONE);
        due("29 as strong", parentOf(3, 3, 5, 101), NONE);
        due("29 twice the parent's strength away", parentOf(6, 4, 1, 101), 0);
        due("29 farther", parentOf(5, 6, 4, 101), NONE);
        due("29 thirty times the parent's strength later", parentOf(3, 3, 1, 250), 0);
        due("29 later still", parentOf(3, 3, 4, 251), NONE);
        DragonJars x = new DragonJars();
        x.was(3, 3, 4, 100);
        x.was(3, 3, 5, 100);
        due("29 the same time, a lesser number, but weaker", x.row(1, 4), NONE);
        due("29 the same time, stronger, but a greater number", x.row(0, 4), NONE);
    }

    private static void whichParent() {
        DragonJars x = new DragonJars();
        x.was(3, 3, 2, 200);
        x.was(3, 3, 6, 150);
        x.was(3, 3, 7, 100);
        due("29 the strongest", x.row(0, 4), 2);
        x.was(3, 3, 7, 160);
        due("29 of several the latest", x.row(0, 4), 3);
        x.was(3, 3, 7, 160);
        due("29 then the greatest number", x.row(0, 4), 4);
        x.was(3, 3, 7, 120);
        due("29 not the greatest number, but the latest", x.row(0, 4), 4);
    }

    private static void families() {
        DragonJars x = new DragonJars();
        due("30 families(0)", x.families(0), 0);
        due("30 families(1)", x.families(1), 0);
        x.was(2, 2, 1, 400);
        due("30 families(0)", x.families(0), 1);
        due("30 families(1)", x.families(1), 1);
        x.was(1, 2, 3, 330);
        x.was(0, 0, 8, 100);
        x.was(9, 9, 12, 0);
        x.was(0, 1, 7, 120);
        // 1 and 4 came of 2; 0 of 1, as 2 is too far in time.
        int[][] want = {
            {1, 2, 0, 4}, {2, 2, 1, 4}, {NONE, 2, 2, 4}, {NONE, 3, 0, 1}, {2, 2, 0, 4},
        };
        x.row(0, 0);
        for (int k = 0; k < want.length; k++) {
            for (int what = 4; what < 8; what++) {
                due("29 row(" + k + ", " + what + ")", x.row(k, what), want[k][what - 4]);
            }
        }
        due("30 families(0)", x.families(0), 2);
        due("30 families(1)", x.families(1), 4);
    }

    private static void refusals() {
        DragonJars x = new DragonJars();
        due("29 row(0, 9)", x.row(0, 9), UNKNOWN);
        x.was(0, 0, 1, 0);
        due("29 row(-1, 0)", x.row(-1, 0), UNKNOWN);
        due("29 row(1, 0)", x.row(1, 0), UNKNOWN);
        due("29 row(0, -1)", x.row(0, -1), OUTSIDE);
        due("29 row(0, 8)", x.row(0, 8), OUTSIDE);
        due("30 families(-1)", x.families(-1), OUTSIDE);
        due("30 families(2)", x.families(2), OUTSIDE);
    }
}
