/** Promises 1 to 12 at their edges: empty, full, the least, the greatest, just enough, one too few. */
public final class LandEdgesTest {
    private static final int UNKNOWN = DragonJars.UNKNOWN, OUTSIDE = DragonJars.OUTSIDE,
        FULL = DragonJars.FULL, NONE = DragonJars.NONE;
    private static final long LOST = DragonJars.LOST;
    private static final Check CHECK = new Check("LandEdgesTest");

    public static void main(String[] args) {
        newObjectIsEmpty();
        objectsAreApart();
        eightHouses();
        housesOnOnePlace();
        sixPillarsEach();
        clockChangesNothingElse();
        windAndStoppedClock();
        setCountsEach();
        setIsOfOneHouse();
        setLeavesWinding();
        stoppedAtLeastAndGreatest();
        fallenEachWay();
        wouldOfAllShakes();
        shakeOfNoHouses();
        shakesTwelve();
        jarAtJustItsForce();
        pillarAtJustItsNeed();
        nearRoundTheEnd();
        clockAtJustItsStop();
        timeAtBothEnds();
        CHECK.finish();
    }

    private static void due(String call, long got, long want) {
        CHECK.due(call, got, want);
    }

    private static void newObjectIsEmpty() {
        DragonJars x = new DragonJars();
        for (int k = 0; k < 4; k++) {
            due("1 at(" + k + ", 0, 0)", x.at(k, 0, 0), LOST);
            due("1 fault(), nothing there", x.fault(), 1);
            due("1 put(" + k + ", 0, 0)", x.put(k, 0, 0), -11);
        }
        int[] nearest = {0, 0, 0, 1, 0, 0, 0};
        for (int what = 0; what < 7; what++) {
            due("1 nearest(" + what + ")", x.nearest(what), nearest[what]);
        }
        due("1 mistaken()", x.mistaken(), 0);
        due("1 forget()", x.forget(), 0);
        due("1 families(0)", x.families(0), 0);
        due("1 families(1)", x.families(1), 0);
        due("1 tell(0)", x.tell(0), UNKNOWN);
        due("1 guard(0)", x.guard(0), UNKNOWN);
        due("1 trace()", x.trace(), 0);
    }

    private static void objectsAreApart() {
        DragonJars x = Scene.FULL.made();
        DragonJars y = new DragonJars();
        due("1 another is full", x.house(0, 0, 0, 1, 1), FULL);
        for (int what = 0; what <= 5; what++) {
            due("1 many(" + what + ") of a new one", y.many(what), 0);
        }
        x.as(0, 2);
        x.tell(0);
        due("1 fault() of a new one", y.fault(), 0);
        due("1 trace() of a new one", y.trace(), 0);
        due("1 fits() of a new one", y.fits(), 13824);
    }

    private static void eightHouses() {
        DragonJars x = new DragonJars();
        for (int h = 0; h < 8; h++) {
            due("2 there is none yet", x.about(h, 0), UNKNOWN);
            due("2 house", x.house(h % 3, 11 - h, h, 240 - h, 1 + h), h);
            due("2 many(0)", x.many(0), h + 1);
            due("2 many(5)", x.many(5), h + 1);
        }
        due("2 the ninth", x.house(0, 0, 0, 1, 1), FULL);
        due("2 there is none", x.about(8, 0), UNKNOWN);
        for (int h = 0; h < 8; h++) {
            int[] want = {h % 3, 11 - h, h, 240 - h, 1 + h, 0, 0, 1, 0, NONE, 0, 0};
            for (int what = 0; what < 12; what++) {
                due("2 about(" + h + ", " + what + ")", x.about(h, what), want[what]);
            }
        }
    }

    private static void housesOnOnePlace() {
        DragonJars x = new DragonJars();
        due("2 a place", x.house(0, 0, 0, 1, 1), 0);
        due("2 the same place", x.house(0, 0, 0, 1, 1), 1);
        x.shake(1, 0, 0, 12, 0, 0);
        due("2 each has its jar", x.about(0, 9) + x.about(1, 9), 8);
    }

    private static void sixPillarsEach() {
        DragonJars x = new DragonJars();
        for (int h = 0; h < 8; h++) {
            x.house(0, h, h, 1, 1);
            for (int p = 0; p < 6; p++) {
                due("3 there is none yet", x.fallen(h, p, 0), UNKNOWN);
                due("3 pillar", x.pillar(h, 1 + 10 * h + p, p), p);
            }
            due("3 the seventh", x.pillar(h, 1, 0), FULL);
            due("3 about(h, 8)", x.about(h, 8), 6);
        }
        due("3 many(1)", x.many(1), 48);
        for (int h = 0; h < 8; h++) {
            for (int p = 0; p < 6; p++) {
                due("3 width", x.fallen(h, p, 0), 1 + 10 * h + p);
                due("3 lean", x.fallen(h, p, 1), p);
            }
        }
    }

    private static void clockChangesNothingElse() {
        DragonJars x = new DragonJars();
        x.house(2, 4, 5, 6, 7);
        x.house(1, 4, 5, 6, 7);
        x.clock(0, -50, 20);
        int[] want = {2, 4, 5, 6, 7, -50, 20, 1, 0, NONE, 0, 0};
        for (int what = 0; what < 12; what++) {
            due("5 about(0, " + what + ")", x.about(0, what), want[what]);
        }
        due("5 another's off", x.about(1, 5), 0);
        due("5 another's slip", x.about(1, 6), 0);
        x.clock(0, 50, 0);
        due("5 a refused one leaves off", x.clock(0, 49, 21) + x.about(0, 5), OUTSIDE + 50);
        due("5 a refused one leaves slip", x.clock(0, 51, 1) + x.about(0, 6), OUTSIDE);
    }

    private static void windAndStoppedClock() {
        DragonJars x = new DragonJars();
        x.house(0, 5, 5, 240, 1);
        x.wind(0, false);
        x.shake(5, 5, 0, 12, 0, 3);
        due("6 not wound, not stopped", x.about(0, 11), 0);
        due("6 not wound, it still runs", x.stopped(0), LOST);
        x.wind(0, true);
        due("6 winding stops nothing", x.about(0, 11), 0);
        x.shake(5, 5, 0, 12, 0, 9);
        due("6 wound, it stops", x.stopped(0), 9);
        due("6 wound or not, stopped", x.wind(0, false), 1);
        due("6 it has stopped still", x.stopped(0), 9);
        due("6 wind again", x.wind(0, true), 1);
        due("6 winding runs nothing", x.about(0, 11), 1);
    }

    private static void setCountsEach() {
        DragonJars x = new DragonJars();
        x.house(0, 5, 5, 18, 240);
        x.shake(4, 5, 0, 1, 0, 0);
        due("7 the jar alone", x.set(0), 1);
        x.house(0, 5, 5, 240, 18);
        x.shake(4, 5, 0, 1, 0, 0);
        due("7 the clock alone", x.set(1), 1);
        x.house(0, 5, 5, 240, 240);
        x.pillar(2, 18, -1);
        x.pillar(2, 19, -1);
        x.shake(4, 5, 0, 1, 0, 0);
        due("7 one pillar alone", x.set(2), 1);
        x.house(0, 5, 5, 1, 1);
        for (int p = 0; p < 6; p++) {
            x.pillar(3, 1, -1);
        }
        due("7 none yet", x.set(3), 0);
        x.shake(4, 5, 0, 1, 0, 0);
        due("7 jar, six pillars, clock", x.set(3), 8);
        due("7 none again", x.set(3), 0);
        x.shake(5, 5, 0, 12, 1, 0);
        due("7 no way: six pillars, clock", x.set(3), 7);
    }

    private static void setIsOfOneHouse() {
        DragonJars x = new DragonJars();
        x.house(0, 5, 5, 1, 1);
        x.house(0, 5, 5, 1, 1);
        x.pillar(0, 1, -1);
        x.pillar(1, 1, -1);
        x.shake(4, 5, 0, 12, 0, 0);
        x.set(0);
        due("7 the other's jar", x.about(1, 9), 0);
        due("7 the other's pillars", x.about(1, 10), 1);
        due("7 the other's clock", x.about(1, 11), 1);
        due("7 many(5)", x.many(5), 1);
        due("7 set(2)", x.set(2), UNKNOWN);
        due("7 set(-1)", x.set(-1), UNKNOWN);
    }

    private static void setLeavesWinding() {
        DragonJars x = new DragonJars();
        x.house(0, 5, 5, 240, 1);
        x.clock(0, 7, 3);
        x.shake(5, 5, 0, 12, 0, 0);
        x.wind(0, false);
        due("7 the clock had stopped", x.set(0), 1);
        due("7 it is not wound by that", x.about(0, 7), 0);
        due("7 off stays", x.about(0, 5), 7);
        due("7 slip stays", x.about(0, 6), 3);
        x.shake(5, 5, 0, 12, 0, 0);
        due("7 so it doesn't stop", x.stopped(0), LOST);
        x.wind(0, true);
        x.shake(5, 5, 0, 12, 0, 1);
        due("7 wound, it stops again", x.stopped(0), 8);
    }

    private static void stoppedAtLeastAndGreatest() {
        DragonJars x = new DragonJars();
        x.house(0, 0, 0, 240, 8);
        x.house(0, 0, 0, 240, 1);
        x.clock(0, 50, 0);
        x.clock(1, -50, 0);
        x.shake(0, 0, 0, 1, 1, 0);
        due("9 the least", x.stopped(1), -50);
        x.set(0);
        x.shake(11, 11, 3, 12, 0, 1000000);
        due("9 the greatest", x.stopped(0), 1000000 + 35 + 50);
        due("9 the other had stopped", x.stopped(1), -50);
        due("9 stopped(2)", x.stopped(2), LOST);
        due("9 stopped(-1)", x.stopped(-1), LOST);
    }

    private static void fallenEachWay() {
        int[][] middles = {{4, 5}, {4, 4}, {5, 4}, {6, 4}, {6, 5}, {6, 6}, {5, 6}, {4, 6}, {5, 5}};
        for (int way = 0; way <= 8; way++) {
            DragonJars x = new DragonJars();
            x.house(0, 5, 5, 1, 240);
            x.pillar(0, 1, -1);
            x.pillar(0, 1, 3);
            due("10 it stands", x.fallen(0, 0, 2), NONE);
            x.shake(middles[way][0], middles[way][1], 0, 12, 0, 0);
            due("10 it fell " + way, x.fallen(0, 0, 2), way);
            due("10 with a lean", x.fallen(0, 1, 2), way == 8 ? 3 : way);
            due("12 the ball of " + way, x.about(0, 9), way == 8 ? NONE : way);
        }
    }

    private static void wouldOfAllShakes() {
        int[][] places = {{0, 0}, {11, 0}, {0, 11}, {11, 11}, {5, 6}};
        for (int[] place : places) {
            PlainModel plain = new PlainModel();
            plain.house(0, place[0], place[1], 1, 1);
            for (int middle = 0; middle < 144; middle++) {
                DragonJars x = new DragonJars();
                x.house(0, place[0], place[1], 1, 1);
                wouldOfMiddle(x, plain, middle / 12, middle % 12);
            }
        }
    }

    private static void wouldOfMiddle(DragonJars x, PlainModel plain, int mx, int my) {
        for (int z = 0; z < 4; z++) {
            for (int s = 1; s <= 12; s++) {
                for (int what = 0; what < 6; what++) {
                    due("11 would(0, " + mx + ", " + my + ", " + z + ", " + s + ")",
                        x.would(0, mx, my, z, s, what % 2, what / 2),
                        plain.would(0, mx, my, z, s, what % 2, what / 2));
                }
            }
        }
    }

    private static void shakeOfNoHouses() {
        DragonJars x = new DragonJars();
        due("12 shake", x.shake(0, 0, 0, 1, 0, 0), 0);
        due("12 many(4)", x.many(4), 1);
        x.house(0, 1, 0, 1, 1);
        due("12 what was ahead of the house", x.about(0, 9), NONE);
    }

    private static void shakesTwelve() {
        DragonJars x = new DragonJars();
        x.house(0, 5, 5, 240, 240);
        for (int k = 0; k < 12; k++) {
            due("12 there is none yet", x.row(k, 0), UNKNOWN);
            due("12 shake", x.shake(k, 11 - k, k % 4, k + 1, k % 2, k * 90000), k);
            int[] want = {k, 11 - k, k + 1, k * 90000};
            for (int what = 0; what < 4; what++) {
                due("12 row(" + k + ", " + what + ")", x.row(k, what), want[what]);
            }
        }
        due("12 the thirteenth", x.shake(5, 4, 0, 12, 0, 0), FULL);
        due("12 nothing came of it", x.about(0, 9), NONE);
        due("12 many(4)", x.many(4), 12);
    }

    /** A FORCE of 18 of WAY 0 comes to a HOUSE at 5, 5: strength 1, a FAR of 1. */
    private static DragonJars shaken(int jar, int stop, int width, int lean) {
        DragonJars x = new DragonJars();
        x.house(0, 5, 5, jar, stop);
        x.pillar(0, width, lean);
        x.shake(4, 5, 0, 1, 0, 70);
        return x;
    }

    private static void jarAtJustItsForce() {
        due("12 jar 17", shaken(17, 240, 240, -1).about(0, 9), 0);
        due("12 jar 18", shaken(18, 240, 240, -1).about(0, 9), 0);
        due("12 jar 19", shaken(19, 240, 240, -1).about(0, 9), NONE);
        due("12 jar 19 is ready", shaken(19, 240, 240, -1).many(5), 1);
        due("12 jar 18 is not", shaken(18, 240, 240, -1).many(5), 0);
        DragonJars x = new DragonJars();
        x.house(0, 0, 0, 240, 240);
        x.shake(0, 0, 0, 12, 0, 0);
        due("12 force 240, but no way", x.about(0, 9), NONE);
        x.house(0, 0, 0, 1, 240);
        x.shake(11, 11, 3, 1, 0, 0);
        due("12 force 0, the finest jar", x.about(1, 9), NONE);
    }

    private static void pillarAtJustItsNeed() {
        due("12 width 18", shaken(240, 240, 18, -1).fallen(0, 0, 2), 0);
        due("12 width 19", shaken(240, 240, 19, -1).fallen(0, 0, 2), NONE);
        due("12 width 38, leans that way", shaken(240, 240, 38, 0).fallen(0, 0, 2), 0);
        due("12 width 39, leans that way", shaken(240, 240, 39, 0).fallen(0, 0, 2), NONE);
        due("12 width 18, leans away", shaken(240, 240, 18, 4).fallen(0, 0, 2), 0);
        due("12 width 19, leans away", shaken(240, 240, 19, 4).fallen(0, 0, 2), NONE);
        DragonJars x = new DragonJars();
        x.house(0, 5, 5, 240, 240);
        x.pillar(0, 240, 3);
        x.pillar(0, 240, -1);
        x.shake(5, 5, 0, 12, 0, 0);
        due("12 no way is near no lean: width 240, force 240", x.fallen(0, 0, 2), 3);
        due("12 nor without lean", x.fallen(0, 1, 2), 8);
        x.set(0);
        x.shake(5, 5, 0, 11, 0, 0);
        due("12 force 220 doesn't do, without a way", x.about(0, 10), 0);
        DragonJars y = new DragonJars();
        y.house(0, 5, 5, 240, 240);
        y.pillar(0, 20, 3);
        y.pillar(0, 18, 3);
        y.pillar(0, 19, 3);
        y.shake(4, 5, 0, 1, 1, 0);
        due("12 upright: the lean takes nothing off", y.fallen(0, 0, 2), NONE);
        due("12 upright: it falls to its lean", y.fallen(0, 1, 2), 3);
        due("12 upright: 19 stands", y.fallen(0, 2, 2), NONE);
    }

    private static void nearRoundTheEnd() {
        for (int lean = 0; lean < 8; lean++) {
            boolean near = lean == 7 || lean <= 1;
            due("12 way 0, lean " + lean, shaken(240, 240, 38, lean).fallen(0, 0, 2), near ? 0 : NONE);
        }
        for (int lean = 0; lean < 8; lean++) {
            DragonJars x = new DragonJars();
            x.house(0, 5, 5, 240, 240);
            x.pillar(0, 37, lean);
            x.shake(4, 6, 0, 1, 0, 0);
            due("12 way 7, lean " + lean, x.fallen(0, 0, 2), lean >= 6 || lean == 0 ? 7 : NONE);
        }
    }

    private static void clockAtJustItsStop() {
        due("12 stop 17", shaken(240, 17, 240, -1).stopped(0), 72);
        due("12 stop 18", shaken(240, 18, 240, -1).stopped(0), 72);
        due("12 stop 19", shaken(240, 19, 240, -1).stopped(0), LOST);
        DragonJars x = new DragonJars();
        x.house(0, 5, 5, 240, 240);
        x.shake(5, 5, 0, 12, 1, 70);
        due("12 force 240, stop 240, upright", x.stopped(0), 70);
    }

    private static void timeAtBothEnds() {
        DragonJars x = new DragonJars();
        x.house(0, 5, 5, 240, 1);
        due("12 time -1", x.shake(5, 5, 0, 1, 0, -1), OUTSIDE);
        due("12 time 0", x.shake(5, 5, 0, 1, 0, 0), 0);
        due("12 stopped(0)", x.stopped(0), 0);
        x.set(0);
        due("12 time 1000001", x.shake(5, 5, 0, 1, 0, 1000001), OUTSIDE);
        due("12 time 1000000", x.shake(5, 5, 0, 1, 0, 1000000), 1);
        due("12 stopped(0)", x.stopped(0), 1000000);
    }
}
