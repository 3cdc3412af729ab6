/** Promises 13 to 25 at their edges: a book that is empty, full, without room; one guess, all, none. */
public final class BookEdgesTest {
    private static final int UNKNOWN = DragonJars.UNKNOWN, OUTSIDE = DragonJars.OUTSIDE,
        STATE = DragonJars.STATE, FULL = DragonJars.FULL, NONE = DragonJars.NONE;
    private static final int DROP = 0, PILLAR = 1, CLOCK = 2, FELT = 3, LESS = 4;
    private static final Check CHECK = new Check("BookEdgesTest");

    public static void main(String[] args) {
        reportLooksAtNoPillar();
        reportOfTheLast();
        reportForty();
        lookAtLeast();
        lookAtMost();
        lookWithJustRoom();
        lookAtClocks();
        turnEach();
        forgetAll();
        fitsAllOneNone();
        fitsNoneButOff();
        fitsAtOneTime();
        fitsOfNeedBelowNothing();
        fitsOfEveryForce();
        whatIsFoundIsAnswered();
        nothingIsLeftOfForgotten();
        fitFirstAndLast();
        spanOfOne();
        spanOfTimes();
        wayOfOne();
        wayOfSeveral();
        nearestAllWrong();
        nearestAllWrongAfterOthers();
        nearestFirst();
        nearestFirstOfClocks();
        nearestWithoutClocks();
        nearestLeastTime();
        wrongWhenOff();
        mistakenLast();
        mistakenNeedsReports();
        mistakenOfOneGuess();
        cartOfEach();
        cartOfOthers();
        noMiddleBeyondTheRim();
        allIsAskedOfAFullBook();
        CHECK.finish();
    }

    private static void due(String call, long got, long want) {
        CHECK.due(call, got, want);
    }

    private static DragonJars withHouse(int x, int y, int jar, int stop) {
        DragonJars made = new DragonJars();
        made.house(0, x, y, jar, stop);
        return made;
    }

    private static void reportLooksAtNoPillar() {
        int[] any = {Integer.MIN_VALUE, -1, 0, 6, Integer.MAX_VALUE};
        DragonJars x = withHouse(5, 5, 10, 10);
        for (int i = 0; i < any.length; i++) {
            for (int kind = 0; kind < 5; kind++) {
                int want = kind == PILLAR ? UNKNOWN : x.many(2);
                due("13 report(" + kind + ", 0, " + any[i] + ", 1)", x.report(kind, 0, any[i], 1), want);
            }
        }
        due("13 many(2)", x.many(2), 4 * any.length);
        for (int r = 0; r < x.many(2); r++) {
            due("16 told(" + r + ", 2)", x.told(r, 2), NONE);
        }
    }

    private static void reportOfTheLast() {
        DragonJars x = Scene.FULL.made();
        x.forget();
        due("13 house 7, pillar 5", x.report(PILLAR, 7, 5, 8), 0);
        due("13 house 7, pillar 6", x.report(PILLAR, 7, 6, 8), UNKNOWN);
        due("13 house 8", x.report(PILLAR, 8, 5, 8), UNKNOWN);
        int[] want = {PILLAR, 7, 5, 8, 1};
        for (int what = 0; what < 5; what++) {
            due("16 told(0, " + what + ")", x.told(0, what), want[what]);
        }
    }

    private static void reportForty() {
        DragonJars x = withHouse(5, 5, 10, 10);
        for (int r = 0; r < 40; r++) {
            due("13 report", x.report(FELT, 0, 0, 1 + r), r);
            due("13 many(2)", x.many(2), r + 1);
        }
        due("13 the forty-first", x.report(FELT, 0, 0, 1), FULL);
        due("16 told(39, 3)", x.told(39, 3), 40);
        due("16 told(40, 3)", x.told(40, 3), -99);
        x.turn(0, false);
        due("13 one that is off takes its room", x.report(FELT, 0, 0, 1), FULL);
        due("17 forget()", x.forget(), 40);
        due("13 there is room again", x.report(LESS, 0, 0, 240), 0);
        due("13 and it is on", x.told(0, 4), 1);
    }

    private static void lookAtLeast() {
        DragonJars x = withHouse(5, 5, 10, 10);
        due("14 a house without pillars, its clock runs", x.look(0), 1);
        int[] want = {DROP, 0, NONE, -1, 1};
        for (int what = 0; what < 5; what++) {
            due("14 told(0, " + what + ")", x.told(0, what), want[what]);
        }
        due("14 look(-1)", x.look(-1), UNKNOWN);
        due("14 look(1)", x.look(1), UNKNOWN);
        due("14 many(2)", x.many(2), 1);
    }

    private static DragonJars allFallen() {
        DragonJars x = withHouse(5, 5, 1, 1);
        for (int p = 0; p < 6; p++) {
            x.pillar(0, 1, p - 1);
        }
        x.shake(5, 6, 0, 12, 0, 50);
        return x;
    }

    private static void lookAtMost() {
        DragonJars x = allFallen();
        for (int i = 0; i < 5; i++) {
            due("14 jar, six pillars, clock", x.look(0), 8);
            due("14 many(2)", x.many(2), 8 * i + 8);
        }
        due("14 no room", x.look(0), FULL);
        due("14 many(2)", x.many(2), 40);
        for (int r = 0; r < 40; r++) {
            int nth = r % 8;
            due("14 kind", x.told(r, 0), nth == 0 ? DROP : nth == 7 ? CLOCK : PILLAR);
            due("14 pillar", x.told(r, 2), nth == 0 || nth == 7 ? NONE : nth - 1);
            due("14 v", x.told(r, 3), nth == 7 ? 52 : 6);
        }
        due("14 it fits what came", x.nearest(6), 0);
    }

    private static void lookWithJustRoom() {
        for (int before = 31; before <= 34; before++) {
            DragonJars x = allFallen();
            for (int r = 0; r < before; r++) {
                x.report(FELT, 0, 0, 1);
            }
            due("14 eight more than " + before, x.look(0), before + 8 <= 40 ? 8 : FULL);
            due("14 many(2)", x.many(2), before + 8 <= 40 ? before + 8 : before);
        }
        DragonJars y = withHouse(5, 5, 10, 10);
        for (int r = 0; r < 39; r++) {
            y.report(FELT, 0, 0, 1);
        }
        due("14 just room for one", y.look(0), 1);
        due("14 not for one more", y.look(0), FULL);
    }

    private static void lookAtClocks() {
        DragonJars x = withHouse(0, 0, 240, 8);
        x.clock(0, 50, 0);
        x.shake(11, 11, 3, 12, 1, 1000000);
        due("14 look(0)", x.look(0), 2);
        due("14 the greatest", x.told(1, 3), 1000085);
        due("14 it is so of the shake that was", x.nearest(6), 0);
        x.set(0);
        due("14 it runs", x.look(0), 1);
        x.clock(0, -50, 0);
        x.shake(0, 0, 0, 12, 1, 0);
        due("14 look(0)", x.look(0), 2);
        due("14 the least", x.told(4, 3), -50);
        x.wind(0, false);
        due("14 stopped, not wound", x.look(0), 2);
    }

    private static void turnEach() {
        DragonJars x = withHouse(5, 5, 10, 10);
        for (int r = 0; r < 40; r++) {
            x.report(FELT, 0, 0, 1);
        }
        for (int r = 0; r < 40; r++) {
            due("15 off", x.turn(r, false), 1);
            due("15 it was so", x.turn(r, false), 0);
            due("15 many(3)", x.many(3), 39 - r);
        }
        due("15 many(2)", x.many(2), 40);
        due("15 on", x.turn(39, true), 1);
        due("15 it was so", x.turn(39, true), 0);
        due("15 turn(40, true)", x.turn(40, true), UNKNOWN);
        due("15 many(3)", x.many(3), 1);
    }

    private static void forgetAll() {
        DragonJars x = Scene.FULL.made();
        due("17 forty", x.forget(), 40);
        due("17 none", x.forget(), 0);
        due("17 many(2)", x.many(2), 0);
        due("17 many(3)", x.many(3), 0);
        due("17 told(0, 0)", x.told(0, 0), -99);
        due("17 houses stay", x.many(0), 8);
        due("17 pillars stay", x.many(1), 48);
        due("17 shakes stay", x.many(4), 12);
        due("17 fits()", x.fits(), 13824);
        due("17 mistaken()", x.mistaken(), 0);
    }

    private static void fitsAllOneNone() {
        DragonJars x = withHouse(5, 5, 10, 10);
        x.house(0, 6, 5, 1, 10);
        due("18 an empty book", x.fits(), 13824);
        x.report(LESS, 0, 0, 240);
        due("18 all but two of 240", x.fits(), 13822);
        x.forget();
        x.report(FELT, 0, 0, 240);
        due("18 the two of 240", x.fits(), 2);
        x.report(DROP, 1, 0, 0);
        due("18 one", x.fits(), 1);
        x.report(LESS, 0, 0, 240);
        due("18 none", x.fits(), 0);
        x.forget();
        x.report(FELT, 0, 0, 1);
        x.report(LESS, 0, 0, 1);
        due("18 one or the other", x.fits(), 0);
    }

    private static void fitsNoneButOff() {
        DragonJars x = withHouse(5, 5, 10, 10);
        for (int r = 0; r < 40; r++) {
            x.report(r % 2 == 0 ? LESS : FELT, 0, 0, r % 2 == 0 ? 1 : 240);
        }
        due("18 a full book", x.fits(), 0);
        for (int r = 0; r < 40; r += 2) {
            x.turn(r, false);
        }
        due("18 half of it is off", x.fits(), 2);
        for (int r = 1; r < 40; r += 2) {
            x.turn(r, false);
        }
        due("18 all of it is off", x.fits(), 13824);
    }

    private static void fitsAtOneTime() {
        DragonJars x = withHouse(5, 5, 240, 240);
        x.house(0, 5, 8, 240, 1);
        x.report(CLOCK, 0, 0, 100);
        x.report(CLOCK, 1, 0, 106);
        due("18 the middle is at the first; root of 36 later", x.fits(), 2);
        x.turn(1, false);
        x.report(CLOCK, 1, 0, 107);
        due("18 one more is too late", x.fits(), 0);
        x.clock(1, 0, 1);
        due("18 but within its slip", x.fits(), 2);
        x.clock(1, 1, 0);
        due("18 or as it tells one more", x.fits(), 2);
        x.clock(1, 2, 1);
        due("18 two more, within its slip", x.fits(), 2);
        x.clock(1, 3, 1);
        due("18 three more are too many", x.fits(), 0);
    }

    private static void fitsOfNeedBelowNothing() {
        DragonJars x = withHouse(11, 11, 240, 240);
        x.pillar(0, 1, 1);
        x.pillar(0, 20, 1);
        x.pillar(0, 21, 1);
        // A FORCE of 0 comes from other middles alone, all of a WAY of 0, 1 or 2, NEAR the lean, if LEVEL.
        x.report(LESS, 0, 0, 1);
        int weak = x.fits();
        x.report(PILLAR, 0, 0, -1);
        int fallen = x.fits();
        x.turn(1, false);
        x.report(PILLAR, 0, 1, -1);
        due("18 need 0 falls as need -19 does", x.fits(), fallen);
        due("18 half of them: the LEVEL ones", fallen * 2, weak);
        x.turn(2, false);
        x.report(PILLAR, 0, 2, -1);
        due("18 need 1 stands with force 0", x.fits(), 0);
    }

    /** How many strengths, of two kinds each, give a FORCE and more, so FAR away. */
    private static int guessesFrom(int far, int force) {
        int found = 0;
        for (int s = 1; s <= 12; s++) {
            found += 240 * s / (12 + far) >= force ? 2 : 0;
        }
        return found;
    }

    private static void fitsOfEveryForce() {
        for (int force = 1; force <= 240; force++) {
            int found = 0;
            for (int cell = 0; cell < 576; cell++) {
                int dx = 4 - cell / 48, dy = 7 - cell / 4 % 12, z = cell % 4;
                found += guessesFrom(dx * dx + dy * dy + 9 * z * z, force);
            }
            DragonJars x = withHouse(4, 7, 10, force);
            x.report(FELT, 0, 0, force);
            due("18 felt " + force, x.fits(), found);
            x.forget();
            x.report(LESS, 0, 0, force);
            due("18 less than " + force, x.fits(), 13824 - found);
            x.forget();
            x.report(CLOCK, 0, 0, 5000);
            due("18 a clock that stops from " + force + " on", x.fits(), found);
        }
    }

    private static void whatIsFoundIsAnswered() {
        DragonJars x = withHouse(5, 5, 10, 240);
        x.shake(5, 5, 0, 12, 0, 9);
        due("18 fits()", x.fits(), 13824);
        due("22 nearest(0)", x.nearest(0), 0);
        due("26 next(240, 2)", x.next(240, 2), 13824);
        due("14 look(0)", x.look(0), 2);
        due("18 a jar that is still, a clock that stopped from 240 on", x.fits(), 2);
        due("20 span(5, 1)", x.span(5, 1), 9);
        due("22 nearest(0)", x.nearest(0), 5);
        due("26 next(240, 2)", x.next(240, 2), 2);
        due("23 wrong(1)", x.wrong(1), 0);
    }

    private static void nothingIsLeftOfForgotten() {
        DragonJars x = withHouse(5, 5, 10, 240);
        x.report(CLOCK, 0, 0, 700);
        due("20 span(5, 0)", x.span(5, 0), 700);
        due("20 span(5, 1)", x.span(5, 1), 700);
        x.forget();
        x.report(FELT, 0, 0, 240);
        due("17 the time of what is forgotten is, too", x.span(5, 0), 0);
        due("17 the time of what is forgotten is, too", x.span(5, 1), 1000000);
        due("23 wrong(0)", x.wrong(0), 0);
    }

    private static void fitFirstAndLast() {
        DragonJars x = withHouse(5, 5, 10, 10);
        x.house(0, 6, 5, 1, 10);
        x.report(FELT, 0, 0, 240);
        int[] first = {5, 5, 0, 12, 0};
        int[] last = {5, 5, 0, 12, 1};
        for (int what = 0; what < 5; what++) {
            due("19 fit(0, " + what + ")", x.fit(0, what), first[what]);
            due("19 fit(1, " + what + ")", x.fit(1, what), last[what]);
        }
        due("19 fit(2, 0)", x.fit(2, 0), UNKNOWN);
        x.report(DROP, 1, 0, -1);
        due("19 the one left", x.fit(0, 4), 1);
        due("19 fit(1, 0)", x.fit(1, 0), UNKNOWN);
        due("19 fit(-1, 0)", x.fit(-1, 0), UNKNOWN);
        x.report(LESS, 0, 0, 1);
        due("19 none is left", x.fit(0, 0), UNKNOWN);
        due("19 none is left, and what is outside", x.fit(0, 5), UNKNOWN);
    }

    private static void spanOfOne() {
        DragonJars x = withHouse(7, 2, 10, 240);
        x.house(0, 6, 2, 1, 10);
        x.report(CLOCK, 0, 0, 1000);
        x.report(DROP, 1, 0, 4);
        int[] want = {7, 2, 0, 12, 0, 1000};
        for (int what = 0; what < 6; what++) {
            due("20 span(" + what + ", 0)", x.span(what, 0), want[what]);
            due("20 span(" + what + ", 1)", x.span(what, 1), want[what]);
        }
        due("20 span(6, 0)", x.span(6, 0), OUTSIDE);
        due("20 span(5, 2)", x.span(5, 2), OUTSIDE);
        x.turn(1, false);
        x.report(LESS, 0, 0, 240);
        for (int what = 0; what < 6; what++) {
            due("20 none fits", x.span(what, 0), STATE);
            due("20 none fits", x.span(what, 1), STATE);
        }
        due("20 what outside ahead of state", x.span(-1, 0), OUTSIDE);
        due("20 end outside ahead of state", x.span(0, -1), OUTSIDE);
    }

    private static void spanOfTimes() {
        int[][] cases = {
            // v, off, slip, least, greatest of the TIME in the middle
            {0, 0, 0, 0, 0}, {0, 0, 20, 0, 20}, {-20, 0, 20, 0, 0}, {-70, -50, 20, 0, 0}, {30, 50, 20, 0, 0},
            {1000000, 0, 0, 1000000, 1000000}, {1000000, 0, 20, 999980, 1000000},
            {1000020, 0, 20, 1000000, 1000000}, {1000070, 50, 20, 1000000, 1000000},
            {100, -50, 20, 130, 170}, {100, 50, 20, 30, 70},
        };
        for (int[] c : cases) {
            DragonJars x = withHouse(0, 0, 240, 240);
            x.clock(0, c[1], c[2]);
            x.report(CLOCK, 0, 0, c[0]);
            due("20 clock at " + c[0] + ": the least", x.span(5, 0), c[3]);
            due("20 clock at " + c[0] + ": the greatest", x.span(5, 1), c[4]);
        }
        int[][] never = {{-21, 0, 20}, {1000021, 0, 20}, {29, 50, 20}, {999971, -50, 20}, {-1000, -50, 20},
            {1001000, 50, 20}};
        for (int[] n : never) {
            DragonJars x = withHouse(0, 0, 240, 240);
            x.clock(0, n[1], n[2]);
            x.report(CLOCK, 0, 0, n[0]);
            due("18 clock at " + n[0], x.fits(), 0);
            due("20 clock at " + n[0], x.span(5, 0), STATE);
        }
    }

    private static void wayOfOne() {
        DragonJars x = withHouse(5, 5, 10, 10);
        x.house(0, 6, 5, 1, 10);
        x.house(0, 5, 5, 10, 10);
        x.report(FELT, 0, 0, 240);
        due("21 the middle, of both kinds", x.way(0), 8);
        due("21 one there and none there", x.way(1), NONE);
        x.report(DROP, 1, 0, -1);
        due("21 upright alone", x.way(1), 8);
        x.turn(1, false);
        x.report(DROP, 1, 0, 0);
        due("21 level alone", x.way(1), 0);
        due("21 the middle", x.way(2), 8);
        due("21 way(3)", x.way(3), UNKNOWN);
        due("21 way(-1)", x.way(-1), UNKNOWN);
        x.report(LESS, 0, 0, 1);
        due("21 none fits", x.way(0), STATE);
        due("21 unknown ahead of state", x.way(3), UNKNOWN);
    }

    private static void wayOfSeveral() {
        DragonJars x = withHouse(5, 5, 205, 10);
        x.house(0, 11, 5, 1, 10);
        x.house(0, 5, 11, 1, 10);
        x.house(0, 4, 5, 1, 10);
        x.report(FELT, 0, 0, 200);
        x.report(DROP, 1, 0, 0);
        // LEVEL, a FAR of 0, 1 or 2 from 5, 5: all of one WAY from there to 11, 5 and to 5, 11.
        due("21 several middles, one way", x.way(1), 0);
        due("21 several middles, another way", x.way(2), 2);
        due("21 several middles, several ways", x.way(3), NONE);
        due("21 several ways round the middle", x.way(0), NONE);
        x.report(DROP, 0, 0, 1);
        due("21 4, 4 alone", x.way(0), 1);
        due("21 4, 4 alone", x.way(3), 2);
    }

    private static void nearestAllWrong() {
        DragonJars x = withHouse(5, 5, 10, 10);
        x.pillar(0, 10, 0);
        for (int r = 0; r < 40; r++) {
            x.report(PILLAR, 0, 0, 8);
        }
        // With a lean it never falls 8: all are wrong of every GUESS, so it is the first.
        int[] want = {0, 0, 0, 1, 0, 0, 40};
        for (int what = 0; what < 7; what++) {
            due("22 nearest(" + what + ")", x.nearest(what), want[what]);
        }
        for (int r = 0; r < 40; r++) {
            due("23 wrong(" + r + ")", x.wrong(r), 1);
        }
        for (int r = 0; r < 39; r++) {
            x.turn(r, false);
        }
        due("22 one is left", x.nearest(6), 1);
        x.turn(39, false);
        due("22 none is left", x.nearest(6), 0);
    }

    private static void nearestAllWrongAfterOthers() {
        DragonJars x = withHouse(5, 5, 10, 10);
        x.pillar(0, 10, 0);
        x.report(FELT, 0, 0, 240);
        x.report(CLOCK, 0, 0, 60);
        due("22 nearest(0)", x.nearest(0), 5);
        due("22 nearest(5)", x.nearest(5), 60);
        x.forget();
        for (int r = 0; r < 40; r++) {
            x.report(PILLAR, 0, 0, 8);
        }
        int[] want = {0, 0, 0, 1, 0, 0, 40};
        for (int what = 0; what < 7; what++) {
            due("22 nearest(" + what + "), all wrong", x.nearest(what), want[what]);
        }
    }

    private static void nearestFirstOfClocks() {
        DragonJars x = withHouse(0, 0, 10, 1);
        x.report(CLOCK, 0, 0, 200);
        x.report(CLOCK, 0, 0, 100);
        int[] want = {0, 0, 0, 1, 0, 100, 1};
        for (int what = 0; what < 7; what++) {
            due("22 of all of whom one clock is wrong the first: nearest(" + what + ")", x.nearest(what), want[what]);
        }
    }

    private static void nearestWithoutClocks() {
        DragonJars x = withHouse(0, 0, 10, 200);
        x.house(0, 11, 11, 10, 10);
        x.report(CLOCK, 0, 0, 500);
        x.report(FELT, 1, 0, 239);
        x.report(FELT, 1, 0, 240);
        int[] want = {11, 11, 0, 12, 0, 0, 1};
        for (int what = 0; what < 7; what++) {
            due("22 no clock stops there: nearest(" + what + ")", x.nearest(what), want[what]);
        }
    }

    private static void nearestFirst() {
        DragonJars x = withHouse(11, 11, 10, 10);
        x.report(FELT, 0, 0, 240);
        int[] last = {11, 11, 0, 12, 0, 0, 0};
        for (int what = 0; what < 7; what++) {
            due("22 nearest(" + what + ")", x.nearest(what), last[what]);
        }
        x.report(LESS, 0, 0, 240);
        x.report(FELT, 0, 0, 239);
        due("22 one is wrong of the last place, two of the first", x.nearest(6), 1);
        due("22 x", x.nearest(0), 11);
        x.report(LESS, 0, 0, 239);
        due("22 two are wrong of either: the first", x.nearest(6), 2);
        due("22 x", x.nearest(0), 0);
    }

    private static void nearestLeastTime() {
        DragonJars x = withHouse(0, 0, 10, 240);
        x.report(FELT, 0, 0, 240);
        x.report(CLOCK, 0, 0, -1000);
        due("22 never so: time 0", x.nearest(5), 0);
        due("22 wrong", x.nearest(6), 1);
        x.report(CLOCK, 0, 0, 1001000);
        due("22 never so: time 0", x.nearest(5), 0);
        due("22 wrong", x.nearest(6), 2);
        x.report(CLOCK, 0, 0, 1000000);
        due("22 the last time", x.nearest(5), 1000000);
        due("22 wrong", x.nearest(6), 2);
        x.report(CLOCK, 0, 0, 0);
        due("22 the first time of two", x.nearest(5), 0);
        due("22 wrong", x.nearest(6), 3);
        int[] want = {0, 1, 1, 1, 0};
        for (int r = 0; r < want.length; r++) {
            due("23 wrong(" + r + ")", x.wrong(r), want[r]);
        }
    }

    private static void wrongWhenOff() {
        DragonJars x = withHouse(5, 5, 10, 10);
        x.report(FELT, 0, 0, 240);
        x.report(FELT, 0, 0, 239);
        x.report(LESS, 0, 0, 1);
        due("23 wrong(2)", x.wrong(2), 1);
        x.turn(2, false);
        due("23 it would be wrong, but is off", x.wrong(2), 0);
        x.turn(2, true);
        due("23 it is on again", x.wrong(2), 1);
        due("23 wrong(3)", x.wrong(3), UNKNOWN);
        x.forget();
        due("23 forgotten", x.wrong(0), UNKNOWN);
    }

    private static void mistakenLast() {
        DragonJars x = Scene.FULL.made();
        x.forget();
        due("24 an empty book", x.mistaken(), 0);
        x.report(FELT, 7, 0, 1);
        x.report(LESS, 7, 0, 1);
        due("24 the last house alone", x.mistaken(), 128);
        x.report(FELT, 0, 0, 1);
        due("24 the last house still", x.mistaken(), 128);
        x.report(LESS, 0, 0, 1);
        due("24 neither alone would do", x.mistaken(), 0);
        x.turn(0, false);
        due("24 the first house alone", x.mistaken(), 1);
        x.turn(2, false);
        due("24 all fit", x.mistaken(), 0);
    }

    private static void mistakenNeedsReports() {
        DragonJars x = withHouse(5, 5, 10, 10);
        x.house(0, 5, 5, 10, 10);
        x.house(0, 5, 5, 10, 10);
        x.report(FELT, 0, 0, 200);
        x.report(LESS, 0, 0, 100);
        x.report(FELT, 1, 0, 1);
        x.turn(2, false);
        due("24 one that is off, one without any", x.mistaken(), 1);
        x.turn(2, true);
        due("24 it takes nothing away to leave it out", x.mistaken(), 1);
    }

    private static void mistakenOfOneGuess() {
        DragonJars x = withHouse(6, 5, 1, 10);
        x.house(0, 4, 5, 1, 10);
        x.house(0, 5, 5, 240, 10);
        x.report(FELT, 2, 0, 240);
        x.report(DROP, 0, 0, 0);
        due("24 fits()", x.fits(), 1);
        due("24 one fits", x.mistaken(), 0);
        x.report(DROP, 1, 0, -1);
        due("24 fits()", x.fits(), 0);
        // Without 0 it was UPRIGHT, without 1 LEVEL, without 2 in the middle of 1.
        due("24 each of three", x.mistaken(), 7);
        x.report(LESS, 2, 0, 1);
        due("24 the third's own are against one another", x.mistaken(), 4);
    }

    private static void cartOfEach() {
        for (int way = 0; way < 8; way++) {
            DragonJars x = withHouse(5, 5, 10, 10);
            x.house(0, 5, 5, 10, 10);
            due("25 report", x.report(DROP, 0, 0, way), 0);
            due("25 alone", x.cart(0), 0);
            x.report(DROP, 1, 0, -1);
            due("25 a jar as fine on the same place was still", x.cart(0), 1);
            x.turn(1, false);
            due("25 that is off", x.cart(0), 0);
        }
        DragonJars y = withHouse(5, 5, 10, 10);
        y.house(0, 5, 5, 11, 10);
        y.report(DROP, 0, 0, 3);
        y.report(DROP, 1, 0, -1);
        due("25 a coarser one may well be still", y.cart(0), 0);
        y.report(FELT, 0, 0, 11);
        due("25 but not if its house felt as much", y.cart(0), 1);
    }

    private static void cartOfOthers() {
        DragonJars x = withHouse(5, 5, 10, 10);
        x.house(0, 6, 5, 1, 10);
        x.report(DROP, 0, 0, 2);
        x.report(DROP, 1, 0, 7);
        x.report(LESS, 1, 0, 1);
        due("25 what others tell of balls and forces is not looked at", x.cart(0), 0);
        x.report(DROP, 0, 0, -1);
        due("25 its own house tells of none, too: no guess fits it", x.cart(0), 1);
        due("25 the other's own are against one another, too", x.cart(1), 1);
        x.turn(2, false);
        due("25 the other's ball, seen from a still jar", x.cart(1), 0);
        due("25 cart(4)", x.cart(4), UNKNOWN);
        due("25 cart(-1)", x.cart(-1), UNKNOWN);
        due("25 of none", x.cart(3), STATE);
    }

    private static void noMiddleBeyondTheRim() {
        int[][] rims = {{11, 0, 4}, {11, 5, 4}, {0, 5, 0}, {5, 11, 6}, {5, 0, 2}, {0, 0, 1}, {11, 11, 5}, {11, 0, 3}};
        for (int[] rim : rims) {
            DragonJars x = withHouse(rim[0], rim[1], 1, 1);
            x.house(0, 5, 5, 240, 240);
            x.report(DROP, 0, 0, rim[2]);
            x.report(FELT, 1, 0, 240);
            due("18 the ball came from beyond the rim", x.fits(), 0);
            due("22 how many are wrong", x.nearest(6), 1);
            due("22 the other is not", x.nearest(0), 5);
            due("23 wrong(0)", x.wrong(0), 1);
            due("23 wrong(1)", x.wrong(1), 0);
            due("24 that house alone", x.mistaken(), 1);
            due("25 no guess fits it", x.cart(0), 1);
            x.turn(1, false);
            due("22 the first of all", x.nearest(0) + x.nearest(1) + x.nearest(2) + x.nearest(4), 0);
            due("22 the first of all", x.nearest(3), 1);
            due("24 that house alone", x.mistaken(), 1);
        }
    }

    private static void allIsAskedOfAFullBook() {
        DragonJars x = Scene.FULL.made();
        x.forget();
        x.report(DROP, 0, 0, 0);
        for (int r = 1; r < 39; r++) {
            x.report(DROP, 1 + r % 6, 0, -1);
        }
        int still = x.cart(0);
        due("13 the last", x.report(LESS, 0, 0, 1), 39);
        due("18 none fits", x.fits(), 0);
        due("22 one is wrong", x.nearest(6), 1);
        due("24 the first house, not the last, which has none", x.mistaken(), 1);
        due("25 its own are against one another", x.cart(0), 1);
        due("25 a drop of none", x.cart(38), STATE);
        due("25 no drop", x.cart(39), STATE);
        due("25 there is none", x.cart(40), UNKNOWN);
        due("23 there is none", x.wrong(40), UNKNOWN);
        x.turn(39, false);
        due("25 the last is off", x.cart(0), still);
    }
}
