/** Promises 26 and 27 at their edges: one guess, all; the finest jar, the coarsest; one width, eight. */
public final class NextEdgesTest {
    private static final int OUTSIDE = DragonJars.OUTSIDE, STATE = DragonJars.STATE;
    private static final int DROP = 0, FELT = 3, LESS = 4;
    private static final Check CHECK = new Check("NextEdgesTest");

    public static void main(String[] args) {
        nextOfAll();
        nextOfOne();
        nextOfEachForce();
        nextFollowsTheBook();
        nextOfNone();
        nextStaysInTheLand();
        whichOfOneWidth();
        whichOfEight();
        whichOfEqualWorst();
        whichOfEveryWidth();
        whichOfMostThatFall();
        whichInEveryLane();
        whichAtBothEnds();
        whichOfOneGuess();
        whichOfNone();
        CHECK.finish();
    }

    private static void due(String call, long got, long want) {
        CHECK.due(call, got, want);
    }

    private static void nextIs(DragonJars x, int v, int placeX, int placeY, int worst) {
        due("26 next(" + v + ", 0)", x.next(v, 0), placeX);
        due("26 next(" + v + ", 1)", x.next(v, 1), placeY);
        due("26 next(" + v + ", 2)", x.next(v, 2), worst);
    }

    private static void nextOfAll() {
        DragonJars x = new DragonJars();
        // 240 comes to a middle alone, where there is no WAY: no ball anywhere, so the first PLACE.
        nextIs(x, 240, 0, 0, 13824);
        nextIs(x, 222, 0, 0, 13824);
        // 221 comes a FAR of 1 away with strength 12: of four middles at the first PLACE off the rim.
        nextIs(x, 221, 1, 1, 13820);
        due("26 next(241, 2)", x.next(241, 2), OUTSIDE);
        due("26 next(0, 2)", x.next(0, 2), OUTSIDE);
    }

    private static void nextOfOne() {
        DragonJars x = new DragonJars();
        x.house(0, 11, 11, 1, 1);
        x.house(0, 11, 10, 1, 1);
        x.report(FELT, 0, 0, 240);
        x.report(DROP, 1, 0, 6);
        due("26 fits()", x.fits(), 1);
        nextIs(x, 1, 0, 0, 1);
        nextIs(x, 240, 0, 0, 1);
    }

    private static void nextOfEachForce() {
        DragonJars x = new DragonJars();
        x.house(0, 0, 0, 1, 1);
        x.report(FELT, 0, 0, 240);
        // LEVEL or UPRIGHT in the corner: told apart wherever the LEVEL one makes the ball drop, first at
        // 0, 1 (by 221); where it does not, both are one.
        nextIs(x, 221, 0, 1, 1);
        nextIs(x, 222, 0, 0, 2);
        nextIs(x, 1, 0, 1, 1);
    }

    private static void nextFollowsTheBook() {
        DragonJars x = new DragonJars();
        x.house(0, 0, 0, 1, 1);
        nextIs(x, 221, 1, 1, 13820);
        x.report(FELT, 0, 0, 240);
        nextIs(x, 221, 0, 1, 1);
        x.turn(0, false);
        nextIs(x, 221, 1, 1, 13820);
        x.turn(0, true);
        nextIs(x, 221, 0, 1, 1);
        x.forget();
        nextIs(x, 221, 1, 1, 13820);
    }

    private static void nextOfNone() {
        DragonJars x = Scene.NONE_FITS.made();
        for (int what = 0; what < 3; what++) {
            due("26 none fits", x.next(1, what), STATE);
            due("26 none fits", x.next(240, what), STATE);
        }
        due("26 outside ahead of state", x.next(241, 0), OUTSIDE);
        due("26 outside ahead of state", x.next(1, 3), OUTSIDE);
        x.forget();
        due("26 all fit again", x.next(240, 2), 13824);
    }

    /** Of eight GUESSES a JAR at 12, 0 would tell more than any in THE LAND: it is no PLACE. */
    private static void nextStaysInTheLand() {
        DragonJars x = new DragonJars();
        x.house(0, 11, 1, 30, 14);
        x.house(0, 8, 2, 55, 18);
        x.report(DROP, 0, 0, 1);
        x.report(LESS, 0, 0, 122);
        x.report(FELT, 1, 0, 84);
        due("26 fits()", x.fits(), 8);
        nextIs(x, 90, 7, 1, 5);
    }

    /** A land with one HOUSE at 0, 0 and some WIDTHS in SHEET 2. */
    private static DragonJars offered(int lane, int... widths) {
        DragonJars x = new DragonJars();
        x.house(0, 0, 0, 10, 10);
        x.sheet(2, lane, widths.length);
        for (int i = 0; i < widths.length; i++) {
            x.put(2, i, widths[i]);
        }
        return x;
    }

    private static void whichOfOneWidth() {
        DragonJars x = offered(2, 240);
        due("27 the only one", x.which(0, 1, 2, 2, 0, 1, 0), 1);
        due("27 two of 13824 fell it", x.which(0, 1, 2, 2, 0, 1, 1), 13822);
        due("27 two of one", x.which(0, 2, 2, 2, 0, 1, 0), OUTSIDE);
        due("27 three of one", x.which(0, 3, 2, 2, 0, 1, 0), OUTSIDE);
        due("27 none of one", x.which(0, 0, 2, 2, 0, 1, 0), OUTSIDE);
        DragonJars y = offered(2, 1);
        y.report(FELT, 0, 0, 1);
        due("27 all fell it", y.which(0, 1, 2, 2, 0, 1, 1), y.fits());
        y.forget();
        y.report(LESS, 0, 0, 1);
        due("27 none fells it", y.which(0, 1, 2, 2, 0, 1, 1), y.fits());
    }

    private static void whichOfEight() {
        DragonJars x = offered(1, 240, 239, 238, 237, 236, 235, 234, 221);
        // All but the last tell but the two of 240 from the rest; the last those of 221, too (two
        // middles of strength 12, of two kinds each).
        due("27 the last of eight", x.which(0, 1, 2, 1, 0, 8, 0), 128);
        due("27 worst", x.which(0, 1, 2, 1, 0, 8, 1), 13824 - 6);
        due("27 two: the first with the last", x.which(0, 2, 2, 1, 0, 8, 0), 129);
        due("27 worst", x.which(0, 2, 2, 1, 0, 8, 1), 13824 - 6);
    }

    private static void whichOfEqualWorst() {
        DragonJars x = offered(2, 240, 240, 240, 240, 240, 240, 240, 240);
        for (int k = 1; k <= 3; k++) {
            due("27 the least as a number", x.which(0, k, 2, 2, 0, 8, 0), (1 << k) - 1);
            due("27 worst", x.which(0, k, 2, 2, 0, 8, 1), 13822);
        }
        due("27 eight of three", x.which(0, 3, 2, 2, 5, 3, 0), 7);
        due("27 of four the first three", x.which(0, 3, 2, 2, 4, 4, 0), 7);
    }

    /** How many GUESSES give a HOUSE at a PLACE a FORCE, or more. */
    private static int reached(int placeX, int placeY, int force) {
        int found = 0;
        for (int cell = 0; cell < 576; cell++) {
            int dx = placeX - cell / 48, dy = placeY - cell / 4 % 12, z = cell % 4;
            for (int s = 1; s <= 12; s++) {
                found += 240 * s / (12 + dx * dx + dy * dy + 9 * z * z) >= force ? 2 : 0;
            }
        }
        return found;
    }

    private static void whichOfEveryWidth() {
        DragonJars x = offered(2, 1);
        x.house(0, 3, 8, 1, 1);
        for (int width = 1; width <= 240; width += 3) {
            x.put(2, 0, width);
            int fall = reached(3, 8, width);
            due("27 a width of " + width, x.which(1, 1, 2, 2, 0, 1, 1), Math.max(fall, 13824 - fall));
        }
    }

    private static void whichOfMostThatFall() {
        DragonJars x = offered(2, 3, 9, 60);
        int three = reached(0, 0, 3);
        int nine = reached(0, 0, 9);
        int sixty = reached(0, 0, 60);
        CHECK.dueTrue("most fall of 3: " + three, three > 13824 - three);
        due("27 worst of 3", x.which(0, 1, 2, 2, 0, 1, 1), three);
        due("27 worst of 9", x.which(0, 1, 2, 2, 1, 1, 1), Math.max(nine, 13824 - nine));
        int[] between = {13824 - three, three - nine, nine - sixty, sixty};
        int worst = 0;
        for (int one : between) {
            worst = Math.max(worst, one);
        }
        due("27 worst of all three", x.which(0, 3, 2, 2, 0, 3, 1), worst);
    }

    private static void whichInEveryLane() {
        for (int lane = 0; lane < 3; lane++) {
            DragonJars x = offered(lane, 1, 127, 128, 240, 241, 0, -1);
            due("27 1", x.which(0, 1, 2, lane, 0, 1, 0), 1);
            due("27 127", x.which(0, 1, 2, lane, 1, 1, 0), 1);
            due("27 128, a byte below 0", x.which(0, 1, 2, lane, 2, 1, 0), lane == 0 ? OUTSIDE : 1);
            due("27 240, a byte below 0", x.which(0, 1, 2, lane, 3, 1, 0), lane == 0 ? OUTSIDE : 1);
            due("27 241", x.which(0, 1, 2, lane, 4, 1, 0), OUTSIDE);
            due("27 0", x.which(0, 1, 2, lane, 5, 1, 0), OUTSIDE);
            due("27 -1", x.which(0, 1, 2, lane, 6, 1, 0), OUTSIDE);
            due("27 one of several", x.which(0, 1, 2, lane, 0, 5, 0), OUTSIDE);
            due("27 fault()", x.fault(), 0);
        }
        DragonJars y = offered(0, 257, 65537);
        due("27 cut to a byte, 1", y.which(0, 1, 2, 0, 0, 1, 0), 1);
        due("27 cut to a byte, 1", y.which(0, 2, 2, 0, 0, 2, 0), 3);
    }

    private static void whichAtBothEnds() {
        DragonJars x = new DragonJars();
        x.house(0, 0, 0, 10, 10);
        x.sheet(3, 1, 40);
        for (int i = 0; i < 40; i++) {
            x.put(3, i, 1 + i);
        }
        due("27 the first eight", x.which(0, 1, 3, 1, 0, 8, 1) > 0 ? 1 : 0, 1);
        due("27 the last eight", x.which(0, 1, 3, 1, 32, 8, 1) > 0 ? 1 : 0, 1);
        due("27 one cell beyond", x.which(0, 1, 3, 1, 33, 8, 1), -13);
        due("27 one cell ahead", x.which(0, 1, 3, 1, -1, 8, 1), -13);
        due("27 the last", x.which(0, 1, 3, 1, 39, 1, 0), 1);
        due("27 beyond the last", x.which(0, 1, 3, 1, 40, 1, 0), -13);
        due("27 of no cells", x.which(0, 1, 3, 1, 40, 0, 0), OUTSIDE);
        due("27 no cells, far off: none is missing", x.which(0, 1, 3, 1, 41, 0, 0), OUTSIDE);
        due("27 no cells, below 0: none is missing", x.which(0, 1, 3, 1, -1, 0, 0), OUTSIDE);
        due("27 fault()", x.fault(), 0);
        x.sheet(3, 1, 0);
        due("27 an empty row", x.which(0, 1, 3, 1, 0, 1, 0), -13);
        due("27 an empty row, no cells", x.which(0, 1, 3, 1, 0, 0, 0), OUTSIDE);
        due("27 an empty row, size", x.which(0, 1, 3, 1, 0, -1, 0), -14);
        due("27 an empty row, cast", x.which(0, 1, 3, 2, 0, -1, 0), -12);
        x.lose(3);
        due("27 nothing", x.which(0, 1, 3, 2, 0, -1, 0), -11);
    }

    private static void whichOfOneGuess() {
        DragonJars x = offered(2, 240, 1, 7);
        x.house(0, 0, 1, 1, 1);
        x.report(FELT, 0, 0, 240);
        x.report(DROP, 1, 0, 2);
        due("27 fits()", x.fits(), 1);
        for (int k = 1; k <= 3; k++) {
            due("27 all tell as much", x.which(0, k, 2, 2, 0, 3, 0), (1 << k) - 1);
            due("27 worst", x.which(0, k, 2, 2, 0, 3, 1), 1);
        }
    }

    private static void whichOfNone() {
        DragonJars x = offered(2, 240, 0);
        x.report(FELT, 0, 0, 1);
        x.report(LESS, 0, 0, 1);
        due("27 none fits", x.which(0, 1, 2, 2, 0, 1, 0), STATE);
        due("27 none fits", x.which(0, 1, 2, 2, 0, 1, 1), STATE);
        due("27 a width ahead of state", x.which(0, 1, 2, 2, 0, 2, 0), OUTSIDE);
        due("27 n ahead of state", x.which(0, 2, 2, 2, 0, 1, 0), OUTSIDE);
        due("27 index ahead of state", x.which(0, 1, 2, 2, 0, 3, 0), -13);
        due("27 fault()", x.fault(), 3);
        due("27 state takes the fault away", x.which(0, 1, 2, 2, 0, 1, 0), STATE);
        due("27 fault()", x.fault(), 0);
    }
}
