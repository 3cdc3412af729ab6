/** Promises 13 to 25: the book. */
public final class BookTest {
    private static final int UNKNOWN = DragonJars.UNKNOWN, OUTSIDE = DragonJars.OUTSIDE,
        STATE = DragonJars.STATE, FULL = DragonJars.FULL, NONE = DragonJars.NONE;
    private static final int DROP = 0, PILLAR = 1, CLOCK = 2, FELT = 3, LESS = 4;
    private static final Check CHECK = new Check("BookTest");

    public static void main(String[] args) {
        reportRefuses();
        reportTakesEdges();
        look();
        lookWithoutRoom();
        turn();
        forget();
        fitsOfForce();
        fitsOfDrop();
        fitsOfPillar();
        fitsOfClock();
        fit();
        span();
        spanOfTime();
        way();
        nearest();
        nearestTime();
        wrong();
        mistaken();
        cart();
        spanOfKind();
        timesInEveryOrder();
        inTheFirstCorner();
        whatChangesTheBook();
        CHECK.finish();
    }

    private static void due(String call, long got, long want) {
        CHECK.due(call, got, want);
    }

    private static void reportRefuses() {
        DragonJars x = new DragonJars();
        due("13 no house, and kind outside", x.report(9, 0, 0, 999), UNKNOWN);
        x.house(0, 5, 5, 10, 10);
        due("13 house -1", x.report(DROP, -1, 0, 0), UNKNOWN);
        due("13 kind -1", x.report(-1, 0, 0, 0), OUTSIDE);
        due("13 kind 5", x.report(5, 0, 0, 1), OUTSIDE);
        due("13 no pillar, and v outside", x.report(PILLAR, 0, 0, 99), UNKNOWN);
        x.pillar(0, 10, 0);
        due("13 pillar 1", x.report(PILLAR, 0, 1, 0), UNKNOWN);
        due("13 pillar -1", x.report(PILLAR, 0, -1, 0), UNKNOWN);
        int[][] bad = {
            {DROP, -2}, {DROP, 8}, {PILLAR, -3}, {PILLAR, 9}, {CLOCK, -1001}, {CLOCK, 1001001},
            {FELT, 0}, {FELT, 241}, {LESS, 0}, {LESS, 241},
        };
        for (int[] b : bad) {
            due("13 kind " + b[0] + ", v " + b[1], x.report(b[0], 0, 0, b[1]), OUTSIDE);
        }
        due("13 none came", x.many(2), 0);
        for (int r = 0; r < 40; r++) {
            due("13 report " + r, x.report(FELT, 0, 0, 1), r);
        }
        due("13 full", x.report(FELT, 0, 0, 1), FULL);
        due("13 v outside ahead of full", x.report(FELT, 0, 0, 0), OUTSIDE);
        due("13 many(2)", x.many(2), 40);
    }

    private static void reportTakesEdges() {
        DragonJars x = new DragonJars();
        x.house(0, 5, 5, 10, 10);
        x.pillar(0, 10, 0);
        int[][] good = {
            {DROP, -1}, {DROP, 7}, {PILLAR, -2}, {PILLAR, -1}, {PILLAR, 8}, {CLOCK, -1000},
            {CLOCK, 1001000}, {FELT, 1}, {FELT, 240}, {LESS, 1}, {LESS, 240},
        };
        for (int r = 0; r < good.length; r++) {
            int kind = good[r][0];
            due("13 report", x.report(kind, 0, kind == PILLAR ? 0 : -77, good[r][1]), r);
            due("16 told, kind", x.told(r, 0), kind);
            due("16 told, house", x.told(r, 1), 0);
            due("16 told, pillar", x.told(r, 2), kind == PILLAR ? 0 : NONE);
            due("16 told, v", x.told(r, 3), good[r][1]);
            due("16 told, on", x.told(r, 4), 1);
        }
        due("16 told(0, -1)", x.told(0, -1), -99);
        due("16 told(0, 5)", x.told(0, 5), -99);
        due("16 told(-1, 0)", x.told(-1, 0), -99);
        due("16 told(11, 0)", x.told(11, 0), -99);
        due("16 told(11, 5)", x.told(11, 5), -99);
    }

    private static void look() {
        DragonJars x = new DragonJars();
        due("14 look, no house", x.look(0), UNKNOWN);
        x.house(0, 9, 9, 200, 200);
        x.house(0, 5, 5, 10, 10);
        x.pillar(1, 200, 3);
        x.pillar(1, 10, -1);
        x.clock(1, 6, 0);
        x.shake(4, 5, 0, 5, 0, 70);
        due("14 look(0), ready, nothing else", x.look(0), 1);
        due("14 look(1)", x.look(1), 4);
        int[][] want = {
            {DROP, 0, NONE, -1, 1}, {DROP, 1, NONE, 0, 1}, {PILLAR, 1, 0, -2, 1}, {PILLAR, 1, 1, 0, 1},
            {CLOCK, 1, NONE, 78, 1},
        };
        for (int r = 0; r < want.length; r++) {
            for (int what = 0; what < 5; what++) {
                due("14 told(" + r + ", " + what + ")", x.told(r, what), want[r][what]);
            }
        }
        due("14 what was found fits the shake", x.wrong(1) + x.nearest(6), 0);
        DragonJars y = new DragonJars();
        y.house(0, 5, 5, 10, 10);
        y.pillar(0, 10, -1);
        y.shake(5, 5, 0, 5, 1, 70);
        y.look(0);
        due("14 upright: the jar told of none", y.told(0, 3), -1);
        due("14 upright: a pillar fell 8", y.told(1, 3), 8);
    }

    private static void lookWithoutRoom() {
        DragonJars x = new DragonJars();
        x.house(0, 5, 5, 10, 10);
        x.pillar(0, 10, -1);
        x.shake(4, 5, 0, 5, 0, 70);
        for (int r = 0; r < 38; r++) {
            x.report(FELT, 0, 0, 1);
        }
        due("14 no room for three", x.look(0), FULL);
        due("14 none came", x.many(2), 38);
        x.set(0);
        due("14 room for two", x.look(0), 2);
        due("14 many(2)", x.many(2), 40);
    }

    private static void turn() {
        DragonJars x = new DragonJars();
        due("15 turn, no report", x.turn(0, true), UNKNOWN);
        x.house(0, 5, 5, 10, 10);
        x.report(LESS, 0, 0, 1);
        x.report(FELT, 0, 0, 240);
        due("15 turn(-1)", x.turn(-1, false), UNKNOWN);
        due("15 turn(2)", x.turn(2, false), UNKNOWN);
        due("15 turn(0, true), it was so", x.turn(0, true), 0);
        due("15 none fits", x.fits(), 0);
        due("15 turn(0, false)", x.turn(0, false), 1);
        due("15 turn(0, false), it was so", x.turn(0, false), 0);
        due("15 told(0, 4)", x.told(0, 4), 0);
        due("15 many(3)", x.many(3), 1);
        due("15 force 240: both kinds in the middle", x.fits(), 2);
        due("15 turn(0, true)", x.turn(0, true), 1);
        due("15 none fits", x.fits(), 0);
        due("15 many(3)", x.many(3), 2);
    }

    private static void forget() {
        DragonJars x = new DragonJars();
        due("17 forget, of none", x.forget(), 0);
        x.house(0, 5, 5, 10, 10);
        x.report(LESS, 0, 0, 1);
        x.report(FELT, 0, 0, 240);
        due("17 fits()", x.fits(), 0);
        due("17 forget()", x.forget(), 2);
        due("17 fits()", x.fits(), 13824);
        due("17 many(2)", x.many(2), 0);
        due("17 turn(0, true)", x.turn(0, true), UNKNOWN);
        due("17 numbers begin anew", x.report(FELT, 0, 0, 1), 0);
    }

    private static void fitsOfForce() {
        DragonJars x = new DragonJars();
        x.house(0, 5, 5, 10, 10);
        x.report(FELT, 0, 0, 220);
        // FAR 0 gives 240, 220 with strengths 12, 11; FAR 1, of four middles, 221 with 12: of two kinds.
        due("18 felt 220", x.fits(), 12);
        x.report(LESS, 0, 0, 240);
        due("18 less than 240", x.fits(), 10);
        x.report(LESS, 0, 0, 221);
        due("18 less than 221", x.fits(), 2);
        due("18 strength", x.span(3, 0), 11);
        due("18 strength", x.span(3, 1), 11);
        x.report(LESS, 0, 0, 220);
        due("18 less than 220", x.fits(), 0);
    }

    private static void fitsOfDrop() {
        DragonJars x = new DragonJars();
        x.house(0, 11, 11, 221, 10);
        x.report(DROP, 0, 0, 1);
        // 221 or more a FAR of 1 or more away needs a strength of 12: 2880 / 13 is 221 (but way 0, 2).
        due("18 drop of 1", x.fits(), 0);
        x.turn(0, false);
        x.report(DROP, 0, 0, 0);
        due("18 drop of 0", x.fits(), 1);
        due("18 x", x.fit(0, 0), 10);
        due("18 y", x.fit(0, 1), 11);
        due("18 kind", x.fit(0, 4), 0);
        x.turn(1, false);
        x.report(DROP, 0, 0, -1);
        due("18 no drop: all but two", x.fits(), 13822);
    }

    private static void fitsOfPillar() {
        DragonJars x = new DragonJars();
        x.house(0, 5, 5, 10, 10);
        x.pillar(0, 240, -1);
        x.pillar(0, 240, 3);
        x.report(PILLAR, 0, 0, 8);
        due("18 without lean, no way: fell 8", x.fits(), 2);
        x.forget();
        x.report(PILLAR, 0, 0, -1);
        due("18 fell somehow", x.fits(), 2);
        x.forget();
        x.report(PILLAR, 0, 0, -2);
        due("18 stands", x.fits(), 13822);
        x.forget();
        x.report(PILLAR, 0, 1, 8);
        due("18 with a lean it never falls 8", x.fits(), 0);
        x.forget();
        x.report(PILLAR, 0, 1, 3);
        // With the way it needs 220: the middle (lean, no way) needs 240; none is near enough for 3.
        due("18 falls to its lean", x.fits(), 2);
        x.forget();
        x.report(PILLAR, 0, 1, 2);
        due("18 falls the way, near its lean", x.fits(), 1);
        due("18 the middle is below", x.fit(0, 1), 4);
        x.forget();
        x.report(PILLAR, 0, 1, 0);
        due("18 not near its lean", x.fits(), 0);
    }

    private static void fitsOfClock() {
        DragonJars x = new DragonJars();
        x.house(0, 5, 5, 10, 240);
        x.report(CLOCK, 0, 0, 30);
        due("18 clock, force 240", x.fits(), 2);
        due("20 time", x.span(5, 0), 30);
        due("20 time", x.span(5, 1), 30);
        x.wind(0, false);
        due("18 wound or not", x.fits(), 2);
        x.clock(0, 40, 5);
        due("18 before time began", x.fits(), 0);
        x.clock(0, 30, 5);
        due("20 time, not below 0", x.span(5, 0), 0);
        due("20 time and slip", x.span(5, 1), 5);
        x.clock(0, 40, 10);
        due("18 just when time began", x.fits(), 2);
        due("20 time", x.span(5, 1), 0);
        x.forget();
        x.report(CLOCK, 0, 0, 1000010);
        x.clock(0, 5, 5);
        due("18 just when time ends", x.fits(), 2);
        due("20 time", x.span(5, 0), 1000000);
        due("20 time", x.span(5, 1), 1000000);
        x.clock(0, 4, 5);
        due("18 after time's end", x.fits(), 0);
        x.forget();
        x.clock(0, 0, 3);
        x.report(CLOCK, 0, 0, 100);
        x.report(CLOCK, 0, 0, 106);
        due("18 two that meet", x.span(5, 0), 103);
        due("18 two that meet", x.span(5, 1), 103);
        x.report(CLOCK, 0, 0, 107);
        due("18 three that don't", x.fits(), 0);
    }

    private static void fit() {
        DragonJars x = new DragonJars();
        int i = 0;
        for (int g = 0; g < 13824; g += 691) {
            due("19 x", x.fit(g, 0), g / 1152);
            due("19 y", x.fit(g, 1), g / 96 % 12);
            due("19 z", x.fit(g, 2), g / 24 % 4);
            due("19 s", x.fit(g, 3), g / 2 % 12 + 1);
            due("19 kind", x.fit(g, 4), g % 2);
            i++;
        }
        due("19 asked", i, 21);
        due("19 fit(-1, 0)", x.fit(-1, 0), UNKNOWN);
        due("19 fit(13824, 9), unknown first", x.fit(13824, 9), UNKNOWN);
        due("19 fit(13823, 5)", x.fit(13823, 5), OUTSIDE);
        due("19 fit(0, -1)", x.fit(0, -1), OUTSIDE);
    }

    private static void span() {
        DragonJars x = new DragonJars();
        int[] least = {0, 0, 0, 1, 0, 0};
        int[] greatest = {11, 11, 3, 12, 1, 1000000};
        for (int what = 0; what < 6; what++) {
            due("20 span(" + what + ", 0)", x.span(what, 0), least[what]);
            due("20 span(" + what + ", 1)", x.span(what, 1), greatest[what]);
        }
        due("20 span(-1, 0)", x.span(-1, 0), OUTSIDE);
        due("20 span(6, 0)", x.span(6, 0), OUTSIDE);
        due("20 span(0, -1)", x.span(0, -1), OUTSIDE);
        due("20 span(0, 2)", x.span(0, 2), OUTSIDE);
        x.house(0, 3, 8, 1, 200);
        x.report(FELT, 0, 0, 200);
        x.report(DROP, 0, 0, -1);
        // Force 200 or more: FAR 0 with s 10 .. 12 of both kinds, FAR 1 with s 11 (203), 12 and
        // FAR 2 with s 12 (205), of UPRIGHT alone, as a LEVEL one would drop a ball.
        due("20 fits()", x.fits(), 6 + 4 * 2 + 4);
        int[] low = {2, 7, 0, 10, 0, 0};
        int[] high = {4, 9, 0, 12, 1, 1000000};
        for (int what = 0; what < 6; what++) {
            due("20 span(" + what + ", 0)", x.span(what, 0), low[what]);
            due("20 span(" + what + ", 1)", x.span(what, 1), high[what]);
        }
        x.report(LESS, 0, 0, 1);
        due("20 none fits", x.span(0, 0), STATE);
        due("20 outside ahead of state", x.span(6, 0), OUTSIDE);
    }

    private static void spanOfTime() {
        DragonJars x = new DragonJars();
        x.house(0, 0, 0, 1, 60);
        x.report(CLOCK, 0, 0, 1000);
        x.clock(0, -10, 2);
        // Force 60 goes to FAR 36 with s 12: it comes up to 12 later; in the middle at once.
        due("20 least time", x.span(5, 0), 1010 - 12 - 2);
        due("20 greatest time", x.span(5, 1), 1010 + 2);
    }

    private static void way() {
        DragonJars x = new DragonJars();
        due("21 no house", x.way(0), UNKNOWN);
        x.house(0, 5, 5, 221, 10);
        x.house(0, 11, 5, 1, 10);
        due("21 not one", x.way(0), NONE);
        x.report(FELT, 0, 0, 240);
        due("21 none for all", x.way(0), 8);
        due("21 one level, one upright", x.way(1), NONE);
        x.report(DROP, 1, 0, 0);
        due("21 one", x.way(1), 0);
        x.report(LESS, 0, 0, 1);
        due("21 none fits", x.way(0), STATE);
        due("21 unknown ahead of state", x.way(2), UNKNOWN);
    }

    private static void nearest() {
        DragonJars x = new DragonJars();
        int[] fresh = {0, 0, 0, 1, 0, 0, 0};
        for (int what = 0; what < 7; what++) {
            due("22 nearest(" + what + ")", x.nearest(what), fresh[what]);
        }
        due("22 nearest(-1)", x.nearest(-1), OUTSIDE);
        due("22 nearest(7)", x.nearest(7), OUTSIDE);
        x.house(0, 7, 3, 10, 10);
        x.report(FELT, 0, 0, 240);
        int[] middle = {7, 3, 0, 12, 0, 0, 0};
        for (int what = 0; what < 7; what++) {
            due("22 nearest(" + what + ")", x.nearest(what), middle[what]);
        }
        x.report(LESS, 0, 0, 240);
        due("22 one of two is wrong: the first guess", x.nearest(6), 1);
        due("22 x", x.nearest(0), 0);
        due("22 s", x.nearest(3), 1);
        x.turn(1, false);
        due("22 what is off doesn't count", x.nearest(6), 0);
        due("22 x", x.nearest(0), 7);
    }

    private static void nearestTime() {
        DragonJars x = new DragonJars();
        x.house(0, 5, 5, 10, 240);
        x.report(FELT, 0, 0, 240);
        x.report(CLOCK, 0, 0, 500);
        x.report(CLOCK, 0, 0, 300);
        due("22 one clock is wrong", x.nearest(6), 1);
        due("22 the least time", x.nearest(5), 300);
        x.report(CLOCK, 0, 0, 510);
        x.clock(0, 0, 5);
        due("22 two go together", x.nearest(6), 1);
        due("22 where both begin to be so", x.nearest(5), 505);
        x.forget();
        x.report(FELT, 0, 0, 240);
        x.report(CLOCK, 0, 0, 3);
        due("22 time is not below 0", x.nearest(5), 0);
        x.forget();
        x.report(FELT, 0, 0, 240);
        x.report(CLOCK, 0, 0, 1000900);
        due("22 after time's end", x.nearest(6), 1);
        due("22 time", x.nearest(5), 0);
        due("22 the other one is so", x.nearest(0), 5);
    }

    private static void wrong() {
        DragonJars x = new DragonJars();
        due("23 no report", x.wrong(0), UNKNOWN);
        x.house(0, 5, 5, 10, 240);
        x.report(FELT, 0, 0, 240);
        x.report(CLOCK, 0, 0, 500);
        x.report(CLOCK, 0, 0, 300);
        x.report(FELT, 0, 0, 239);
        int[] want = {0, 1, 0, 0};
        for (int r = 0; r < 4; r++) {
            due("23 wrong(" + r + ")", x.wrong(r), want[r]);
        }
        due("23 wrong(-1)", x.wrong(-1), UNKNOWN);
        due("23 wrong(4)", x.wrong(4), UNKNOWN);
        x.turn(2, false);
        due("23 the other clock is right now", x.wrong(1), 0);
        due("23 off", x.wrong(2), 0);
    }

    private static void mistaken() {
        DragonJars x = new DragonJars();
        due("24 all fit", x.mistaken(), 0);
        x.house(0, 5, 5, 10, 10);
        x.house(0, 5, 5, 10, 10);
        x.house(0, 5, 5, 10, 10);
        x.report(FELT, 0, 0, 200);
        x.report(LESS, 2, 0, 100);
        due("24 either of two", x.mistaken(), 5);
        x.report(FELT, 1, 0, 150);
        due("24 the one against two", x.mistaken(), 4);
        x.turn(1, false);
        due("24 it is off: all fit", x.mistaken(), 0);
        x.turn(1, true);
        x.report(CLOCK, 0, 0, 100);
        x.report(CLOCK, 1, 0, 1000);
        due("24 no one house alone", x.mistaken(), 0);
        x.turn(1, false);
        due("24 clocks far apart", x.mistaken(), 3);
        x.report(CLOCK, 1, 0, -1000);
        due("24 before time", x.mistaken(), 2);
    }

    private static void cart() {
        DragonJars x = new DragonJars();
        due("25 no report", x.cart(0), UNKNOWN);
        x.house(0, 5, 5, 10, 10);
        x.house(0, 6, 5, 1, 10);
        x.pillar(0, 240, -1);
        x.report(DROP, 0, 0, 2);
        x.report(DROP, 0, 0, -1);
        x.report(FELT, 0, 0, 1);
        x.turn(1, false);
        due("25 any guess that fits its house will do", x.cart(0), 0);
        due("25 off", x.cart(1), STATE);
        due("25 a drop of none", x.turn(1, true) + x.cart(1), 1 + STATE);
        due("25 no guess fits its own house", x.cart(0), 1);
        x.turn(1, false);
        due("25 felt is no drop", x.cart(2), STATE);
        due("25 cart(3)", x.cart(3), UNKNOWN);
        x.report(DROP, 1, 0, -1);
        due("25 the jar beside it is finer, and dropped none", x.cart(0), 1);
        x.turn(3, false);
        due("25 that report is off", x.cart(0), 0);
        x.turn(3, true);
        x.turn(0, false);
        due("25 off", x.cart(0), STATE);
        x.forget();
        x.report(DROP, 1, 0, 4);
        x.report(DROP, 0, 0, -1);
        due("25 the coarser jar may be still", x.cart(0), 0);
        x.report(FELT, 1, 0, 100);
        due("25 not if its house felt so much", x.cart(0), 1);
    }

    private static void spanOfKind() {
        DragonJars x = new DragonJars();
        x.house(0, 5, 5, 200, 10);
        x.house(0, 6, 5, 1, 10);
        x.report(DROP, 1, 0, 0);
        due("20 a ball fell: level alone", x.span(4, 0), 0);
        due("20 a ball fell: level alone", x.span(4, 1), 0);
        x.forget();
        x.report(FELT, 0, 0, 240);
        x.report(DROP, 1, 0, -1);
        due("20 no ball so near: upright alone", x.span(4, 0), 1);
        due("20 no ball so near: upright alone", x.span(4, 1), 1);
        due("18 fits()", x.fits(), 1);
    }

    private static void nearestIs(int slip, int time, int wrong, int... clocks) {
        DragonJars x = new DragonJars();
        x.house(0, 0, 0, 10, 240);
        x.clock(0, 0, slip);
        for (int v : clocks) {
            x.report(CLOCK, 0, 0, v);
        }
        x.report(FELT, 0, 0, 240);
        due("22 time", x.nearest(5), time);
        due("22 wrong", x.nearest(6), wrong);
        for (int r = 0; r < clocks.length; r++) {
            due("23 wrong(" + r + ")", x.wrong(r), Math.abs(clocks[r] - time) <= slip ? 0 : 1);
        }
    }

    private static void timesInEveryOrder() {
        nearestIs(0, 300, 1, 300, 500);
        nearestIs(0, 300, 1, 500, 300);
        nearestIs(5, 505, 1, 500, 510, 300);
        nearestIs(5, 505, 1, 300, 510, 500);
        nearestIs(5, 505, 1, 510, 300, 500);
        nearestIs(5, 295, 2, 300, 520, 509);
        nearestIs(5, 0, 1, -5, 500);
        nearestIs(5, 0, 1, 500, -5);
        nearestIs(5, 6, 0, 5, 11);
        nearestIs(5, 0, 1, 5, 16);
        nearestIs(5, 1, 0, 5, 6);
        nearestIs(5, 495, 1, -6, 500);
        nearestIs(5, 1000000, 0, 1000005);
        nearestIs(5, 0, 1, 1000006);
        nearestIs(20, 7, 1, 27, 26, 25, -20, -13);
    }

    private static void inTheFirstCorner() {
        DragonJars x = new DragonJars();
        x.house(0, 0, 0, 1, 10);
        x.house(0, 0, 1, 1, 10);
        x.house(0, 11, 11, 240, 10);
        x.report(DROP, 2, 0, -1);
        x.report(DROP, 1, 0, 2);
        x.report(FELT, 1, 0, 221);
        x.report(LESS, 1, 0, 240);
        due("18 just below", x.fits(), 1);
        due("19 x", x.fit(0, 0), 0);
        due("19 y", x.fit(0, 1), 0);
        due("21 the way there", x.way(0), 8);
        due("21 the way there", x.way(1), 2);
        due("21 the way there", x.way(2), 1);
        due("25 the far jar is still", x.cart(1), 0);
        x.report(DROP, 0, 0, 2);
        due("24 no ball in the middle", x.mistaken(), 1);
        x.forget();
        x.report(DROP, 0, 0, -1);
        x.report(DROP, 1, 0, 2);
        due("25 it was in the middle of the still jar", x.cart(1), 0);
        x.report(LESS, 1, 0, 19);
        x.report(FELT, 1, 0, 18);
        due("25 from there still", x.cart(1), 0);
        x.forget();
        x.report(DROP, 0, 0, -1);
        x.report(DROP, 1, 0, 0);
        x.report(FELT, 1, 0, 60);
        due("25 no middle is so", x.cart(1), 1);
        x.forget();
        x.report(DROP, 0, 0, -1);
        x.report(DROP, 1, 0, 6);
        x.report(FELT, 1, 0, 60);
        due("25 the still jar would have had it, too", x.cart(1), 1);
        x.turn(0, false);
        due("25 nobody told of it", x.cart(1), 0);
    }

    private static void whatChangesTheBook() {
        DragonJars x = new DragonJars();
        x.house(0, 5, 5, 10, 10);
        x.report(CLOCK, 0, 0, 0);
        int before = x.fits();
        int beforeWorst = x.next(10, 2);
        x.house(0, 5, 5, 10, 10);
        x.pillar(0, 1, -1);
        x.wind(0, false);
        x.shake(5, 5, 0, 12, 0, 5);
        x.set(0);
        due("18 the land's going on changes no fits", x.fits(), before);
        due("26 nor what is next", x.next(10, 2), beforeWorst);
        x.clock(0, -20, 0);
        CHECK.dueTrue("18 clock() does: " + before, x.fits() > before);
        CHECK.dueTrue("26 and next: " + beforeWorst, x.next(10, 2) > beforeWorst);
        x.look(0);
        CHECK.dueTrue("18 look() does", x.fits() < 13824);
    }
}
