/** Promises 26 and 27: where another jar, which pillars. */
public final class NextTest {
    private static final int UNKNOWN = DragonJars.UNKNOWN, OUTSIDE = DragonJars.OUTSIDE,
        STATE = DragonJars.STATE;
    private static final int FELT = 3, LESS = 4;
    private static final Check CHECK = new Check("NextTest");

    public static void main(String[] args) {
        nextOfTwo();
        nextRefuses();
        whichOfFew();
        whichOfSame();
        whichRefuses();
        whichFaults();
        CHECK.finish();
    }

    private static void due(String call, long got, long want) {
        CHECK.due(call, got, want);
    }

    private static void nextOfTwo() {
        DragonJars x = new DragonJars();
        x.house(0, 0, 0, 10, 10);
        x.report(FELT, 0, 0, 240);
        // Two guesses are left, LEVEL and UPRIGHT in the corner: a jar beside it tells them apart.
        due("26 worst", x.next(1, 2), 1);
        due("26 x", x.next(1, 0), 0);
        due("26 y", x.next(1, 1), 1);
        due("26 far too coarse: both give none", x.next(240, 2), 2);
        due("26 the first place", x.next(240, 0), 0);
        due("26 the first place", x.next(240, 1), 0);
        due("26 the first again", x.next(1, 1), 1);
        x.forget();
        due("26 of all guesses", x.next(10, 2), 8306);
    }

    private static void nextRefuses() {
        DragonJars x = new DragonJars();
        due("26 next(0, 0)", x.next(0, 0), OUTSIDE);
        due("26 next(241, 0)", x.next(241, 0), OUTSIDE);
        due("26 next(1, -1)", x.next(1, -1), OUTSIDE);
        due("26 next(1, 3)", x.next(1, 3), OUTSIDE);
        x.house(0, 0, 0, 10, 10);
        x.report(LESS, 0, 0, 1);
        x.report(FELT, 0, 0, 1);
        due("26 none fits", x.next(1, 0), STATE);
        due("26 outside ahead of state", x.next(0, 0), OUTSIDE);
    }

    private static DragonJars withWidths(int lane, int... widths) {
        DragonJars x = new DragonJars();
        x.house(0, 0, 0, 10, 10);
        x.report(FELT, 0, 0, 180);
        x.sheet(2, lane, 12);
        for (int i = 0; i < widths.length; i++) {
            x.put(2, i + 1, widths[i]);
        }
        return x;
    }

    private static void whichOfFew() {
        // Forces left (two kinds each): FAR 0: 180, 200, 220, 240; FAR 1 (two places): 184, 203, 221;
        // FAR 2: 188, 205; FAR 4 (two): 180; all for z 0. So 2 at 240, 4 at 221, 2 at 220, 2 at 205,
        // 4 at 203, 2 at 200, 2 at 188, 4 at 184, 2 + 4 at 180.
        DragonJars x = withWidths(2, 240, 200, 184, 221);
        due("27 fits()", x.fits(), 28);
        due("27 one: 200 leaves 12 and 16", x.which(0, 1, 2, 2, 1, 4, 0), 2);
        due("27 worst", x.which(0, 1, 2, 2, 1, 4, 1), 16);
        due("27 two: 200, 184: 16, 6, 6; 221, 200: 6, 10, 12", x.which(0, 2, 2, 2, 1, 4, 0), 10);
        due("27 worst", x.which(0, 2, 2, 2, 1, 4, 1), 12);
        due("27 three: 221, 200, 184: 6, 10, 6, 6", x.which(0, 3, 2, 2, 1, 4, 0), 14);
        due("27 worst", x.which(0, 3, 2, 2, 1, 4, 1), 10);
        due("27 from the second on", x.which(0, 1, 2, 2, 2, 3, 0), 1);
        due("27 as many as are offered", x.which(0, 3, 2, 2, 2, 3, 0), 7);
        due("27 fault()", x.fault(), 0);
    }

    private static void whichOfSame() {
        DragonJars x = withWidths(1, 200, 200, 200);
        due("27 the same ones tell no more", x.which(0, 2, 2, 1, 1, 3, 1), 16);
        due("27 the least number", x.which(0, 2, 2, 1, 1, 3, 0), 3);
        due("27 the least number", x.which(0, 1, 2, 1, 1, 3, 0), 1);
        DragonJars y = withWidths(0, 1, 2, 3, 4, 5, 6, 7, 8);
        due("27 eight that all fall", y.which(0, 3, 2, 0, 1, 8, 1), 28);
        due("27 eight that all fall", y.which(0, 3, 2, 0, 1, 8, 0), 7);
        DragonJars z = withWidths(2, 1, 2, 3, 4, 5, 6, 7, 200, 9);
        due("27 the last of eight", z.which(0, 1, 2, 2, 1, 8, 0), 128);
        due("27 nine", z.which(0, 1, 2, 2, 1, 9, 0), OUTSIDE);
    }

    private static void whichRefuses() {
        DragonJars x = withWidths(2, 240, 200, 184, 221, 0, 241, 1, 1, 1, 1, 1);
        due("27 no house", x.which(1, 0, 2, 2, 1, 4, 0), UNKNOWN);
        due("27 house -1", x.which(-1, 1, 2, 2, 1, 4, 0), UNKNOWN);
        due("27 no sheet", x.which(0, 0, 4, 2, 1, 4, 0), UNKNOWN);
        due("27 sheet -1", x.which(0, 1, -1, 2, 1, 4, 0), UNKNOWN);
        due("27 lane -1", x.which(0, 1, 2, -1, 1, 4, 0), OUTSIDE);
        due("27 lane 3, ahead of nothing there", x.which(0, 1, 3, 3, 1, 4, 0), OUTSIDE);
        due("27 k 0", x.which(0, 0, 2, 2, 1, 4, 0), OUTSIDE);
        due("27 k 4, ahead of a cast", x.which(0, 4, 2, 0, 1, 4, 0), OUTSIDE);
        due("27 what -1", x.which(0, 1, 2, 2, 1, 4, -1), OUTSIDE);
        due("27 what 2, ahead of a size", x.which(0, 1, 2, 2, 1, -1, 2), OUTSIDE);
        due("27 n below k", x.which(0, 3, 2, 2, 1, 2, 0), OUTSIDE);
        due("27 n 0", x.which(0, 1, 2, 2, 1, 0, 0), OUTSIDE);
        due("27 n 9", x.which(0, 1, 2, 2, 1, 9, 0), OUTSIDE);
        due("27 width 0", x.which(0, 1, 2, 2, 4, 2, 0), OUTSIDE);
        due("27 width 241", x.which(0, 1, 2, 2, 6, 1, 0), OUTSIDE);
        due("27 fault()", x.fault(), 0);
        x.report(LESS, 0, 0, 1);
        due("27 outside ahead of state", x.which(0, 1, 2, 2, 6, 1, 0), OUTSIDE);
        due("27 none fits", x.which(0, 1, 2, 2, 1, 4, 0), STATE);
    }

    private static void whichFaults() {
        DragonJars x = withWidths(2, 240, 200, 184, 221);
        due("27 cast", x.which(0, 1, 2, 0, 99, -1, 0), -12);
        due("27 fault()", x.fault(), 2);
        due("27 nothing", x.which(0, 1, 0, 0, 99, -1, 0), -11);
        due("27 fault()", x.fault(), 1);
        due("27 size", x.which(0, 1, 2, 2, 99, -1, 0), -14);
        due("27 fault()", x.fault(), 4);
        due("27 index, ahead of n", x.which(0, 1, 2, 2, 4, 9, 0), -13);
        due("27 fault()", x.fault(), 3);
        due("27 index", x.which(0, 1, 2, 2, -1, 2, 0), -13);
        due("27 index", x.which(0, 1, 2, 2, 11, 2, 0), -13);
        due("27 index", x.which(0, 1, 2, 2, Integer.MAX_VALUE, Integer.MAX_VALUE, 0), -13);
        due("27 refused: no house", x.which(9, 1, 2, 2, 11, 2, 0), UNKNOWN);
        due("27 fault()", x.fault(), 0);
        x.report(LESS, 0, 0, 1);
        due("27 a fault ahead of state", x.which(0, 1, 2, 2, 12, 1, 0), -13);
    }
}
