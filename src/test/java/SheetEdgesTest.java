/** Promises 4 and 31 to 34 at their edges: nothing, no cells, forty; the first cell, the last; each lane's cut. */
public final class SheetEdgesTest {
    private static final int UNKNOWN = DragonJars.UNKNOWN, OUTSIDE = DragonJars.OUTSIDE,
        FULL = DragonJars.FULL;
    private static final long LOST = DragonJars.LOST;
    private static final int NULL = 1, CAST = 2, INDEX = 3, SIZE = 4;
    private static final Check CHECK = new Check("SheetEdgesTest");

    public static void main(String[] args) {
        sheetsOfEachLength();
        sheetsAnew();
        sheetsAreApart();
        loseAndGetAnew();
        putAtBothEnds();
        cellsAreCut();
        atInOtherLanes();
        pillarsOfNoCells();
        pillarsOfTheLastCells();
        pillarsOfEachLane();
        pillarsUpToSix();
        pillarsOfTheFirstRefused();
        pillarsInTheLastHouse();
        CHECK.finish();
    }

    private static void due(String call, long got, long want) {
        CHECK.due(call, got, want);
    }

    private static void sheetsOfEachLength() {
        for (int lane = 0; lane < 3; lane++) {
            DragonJars x = new DragonJars();
            for (int n = 0; n <= 40; n++) {
                due("31 sheet(3, " + lane + ", " + n + ")", x.sheet(3, lane, n), 1);
                due("31 cell " + n + " is not there", x.at(3, n, lane), LOST);
                due("31 fault()", x.fault(), INDEX);
                due("31 cell " + (n - 1), x.at(3, n - 1, lane), n == 0 ? LOST : 0);
                due("31 fault()", x.fault(), n == 0 ? INDEX : 0);
            }
            due("31 n 41", x.sheet(3, lane, 41), OUTSIDE);
            due("31 the forty cells are still there", x.at(3, 39, lane), 0);
            due("31 n -1", x.sheet(3, lane, -1), -14);
            due("31 fault()", x.fault(), SIZE);
            due("31 the forty cells are still there", x.at(3, 39, lane), 0);
        }
    }

    private static void sheetsAnew() {
        DragonJars x = new DragonJars();
        x.sheet(0, 2, 40);
        for (int i = 0; i < 40; i++) {
            due("33 put(0, " + i + ", " + -i + ")", x.put(0, i, -1 - i), 1);
        }
        for (int i = 0; i < 40; i++) {
            due("34 at(0, " + i + ", 2)", x.at(0, i, 2), -1 - i);
        }
        due("31 a shorter one", x.sheet(0, 2, 3), 1);
        for (int i = 0; i < 3; i++) {
            due("31 at(0, " + i + ", 2)", x.at(0, i, 2), 0);
        }
        due("31 at(0, 3, 2)", x.at(0, 3, 2), LOST);
        due("31 a longer one", x.sheet(0, 2, 40), 1);
        for (int i = 0; i < 40; i++) {
            due("31 at(0, " + i + ", 2)", x.at(0, i, 2), 0);
        }
        due("31 of another lane", x.sheet(0, 0, 40), 1);
        due("31 it is no row of ints now", x.at(0, 0, 2), LOST);
        due("31 fault()", x.fault(), CAST);
    }

    private static void sheetsAreApart() {
        DragonJars x = new DragonJars();
        for (int k = 0; k < 4; k++) {
            x.sheet(k, 1, 2);
            x.put(k, 1, 100 + k);
        }
        for (int k = 0; k < 4; k++) {
            due("33 at(" + k + ", 0, 1)", x.at(k, 0, 1), 0);
            due("33 at(" + k + ", 1, 1)", x.at(k, 1, 1), 100 + k);
        }
        due("32 lose(1)", x.lose(1), 1);
        due("32 at(1, 1, 1)", x.at(1, 1, 1), LOST);
        due("32 fault()", x.fault(), NULL);
        due("32 at(0, 1, 1)", x.at(0, 1, 1), 100);
        due("32 at(2, 1, 1)", x.at(2, 1, 1), 102);
    }

    private static void loseAndGetAnew() {
        DragonJars x = new DragonJars();
        for (int k = 0; k < 4; k++) {
            due("32 it had nothing", x.lose(k), 0);
            x.sheet(k, 2, 1);
            x.put(k, 0, 9);
            due("32 lose(" + k + ")", x.lose(k), 1);
            due("32 put", x.put(k, 0, 9), -11);
            due("32 it has nothing again", x.lose(k), 0);
            x.sheet(k, 2, 1);
            due("32 what it had is gone", x.at(k, 0, 2), 0);
        }
        due("32 lose(4)", x.lose(4), UNKNOWN);
        due("32 lose(-1)", x.lose(-1), UNKNOWN);
        for (int k = 0; k < 4; k++) {
            due("32 refused, none is lost", x.lose(k), 1);
        }
    }

    private static void putAtBothEnds() {
        DragonJars x = new DragonJars();
        x.sheet(3, 0, 40);
        due("33 put(3, 0, 1)", x.put(3, 0, 1), 1);
        due("33 put(3, 39, 2)", x.put(3, 39, 2), 1);
        due("33 fault()", x.fault(), 0);
        due("33 put(3, -1, 3)", x.put(3, -1, 3), -13);
        due("33 put(3, 40, 3)", x.put(3, 40, 3), -13);
        due("33 fault()", x.fault(), INDEX);
        due("34 at(3, 0, 0)", x.at(3, 0, 0), 1);
        due("34 at(3, 39, 0)", x.at(3, 39, 0), 2);
        for (int i = 1; i < 39; i++) {
            due("33 no other changed", x.at(3, i, 0), 0);
        }
    }

    private static void cellsAreCut() {
        long[][] cuts = {
            // v, as a byte, as a short, as an int
            {127, 127, 127, 127}, {128, -128, 128, 128}, {-128, -128, -128, -128}, {-129, 127, -129, -129},
            {255, -1, 255, 255}, {256, 0, 256, 256}, {32767, -1, 32767, 32767}, {32768, 0, -32768, 32768},
            {-32768, 0, -32768, -32768}, {-32769, -1, 32767, -32769}, {65535, -1, -1, 65535},
            {65536, 0, 0, 65536}, {2147483647L, -1, -1, 2147483647L}, {-2147483648L, 0, 0, -2147483648L},
        };
        for (long[] cut : cuts) {
            DragonJars x = new DragonJars();
            for (int lane = 0; lane < 3; lane++) {
                x.sheet(lane, lane, 1);
                due("33 put", x.put(lane, 0, (int) cut[0]), 1);
                due("33 " + cut[0] + " in lane " + lane, x.at(lane, 0, lane), cut[1 + lane]);
            }
        }
    }

    private static void atInOtherLanes() {
        DragonJars x = new DragonJars();
        for (int lane = 0; lane < 3; lane++) {
            x.sheet(lane, lane, 1);
            x.put(lane, 0, 5);
            for (int as = 0; as < 3; as++) {
                due("34 lane " + lane + " as " + as, x.at(lane, 0, as), as == lane ? 5 : LOST);
                due("34 fault()", x.fault(), as == lane ? 0 : CAST);
                due("34 a cast ahead of the index", x.at(lane, 1, as), LOST);
                due("34 fault()", x.fault(), as == lane ? INDEX : CAST);
                due("34 nothing is no cast", x.at(3, 1, as), LOST);
                due("34 fault()", x.fault(), NULL);
            }
        }
        x.sheet(3, 1, 0);
        due("34 of no cells, another lane", x.at(3, 0, 0), LOST);
        due("34 fault()", x.fault(), CAST);
        due("34 of no cells", x.at(3, 0, 1), LOST);
        due("34 fault()", x.fault(), INDEX);
    }

    private static void pillarsOfNoCells() {
        DragonJars x = new DragonJars();
        x.house(0, 1, 1, 1, 1);
        due("4 nothing, none of it", x.pillars(0, 2, 0, 0, 0), -11);
        x.sheet(2, 0, 0);
        due("4 an empty row, none of it", x.pillars(0, 2, 0, 0, 0), 0);
        due("4 fault()", x.fault(), 0);
        due("4 none of it, far off: none is missing", x.pillars(0, 2, 0, 41, 0), 0);
        due("4 none of it, below 0: none is missing", x.pillars(0, 2, 0, -1, 0), 0);
        due("4 fault()", x.fault(), 0);
        due("4 an empty row, one", x.pillars(0, 2, 0, 0, 1), -13);
        due("4 an empty row, size", x.pillars(0, 2, 0, 0, -1), -14);
        due("4 an empty row, cast", x.pillars(0, 2, 1, 0, -1), -12);
        x.sheet(2, 0, 1);
        x.put(2, 0, 9);
        due("4 a width without a lean", x.pillars(0, 2, 0, 0, 1), -13);
        due("4 many(1)", x.many(1), 0);
    }

    private static void pillarsOfTheLastCells() {
        DragonJars x = new DragonJars();
        x.house(0, 1, 1, 1, 1);
        x.sheet(0, 2, 40);
        for (int i = 28; i < 40; i++) {
            x.put(0, i, i % 2 == 0 ? i : i % 8);
        }
        due("4 one cell too few", x.pillars(0, 0, 2, 39, 1), -13);
        due("4 beyond the last", x.pillars(0, 0, 2, 40, 1), -13);
        due("4 one more than there are", x.pillars(0, 0, 2, 28, 7), -13);
        due("4 the last six", x.pillars(0, 0, 2, 28, 6), 6);
        for (int p = 0; p < 6; p++) {
            due("4 width", x.fallen(0, p, 0), 28 + 2 * p);
            due("4 lean", x.fallen(0, p, 1), (29 + 2 * p) % 8);
        }
    }

    private static void pillarsOfEachLane() {
        for (int lane = 0; lane < 3; lane++) {
            DragonJars x = new DragonJars();
            x.house(0, 1, 1, 1, 1);
            x.sheet(0, lane, 40);
            int[] cells = {1, -1, 127, 7, 128, 0, 240, 0, 241, 0, 0, 0, 1, -2, 1, 8, 257, 0, 65537, 0};
            for (int i = 0; i < cells.length; i++) {
                x.put(0, i, cells[i]);
            }
            due("4 1, -1", x.pillars(0, 0, lane, 0, 1), 1);
            due("4 127, 7", x.pillars(0, 0, lane, 2, 1), 2);
            due("4 128, a byte below 0", x.pillars(0, 0, lane, 4, 1), lane == 0 ? OUTSIDE : 3);
            due("4 240, a byte below 0", x.pillars(0, 0, lane, 6, 1), lane == 0 ? OUTSIDE : 4);
            int many = x.about(0, 8);
            for (int i = 8; i < 16; i += 2) {
                due("4 " + cells[i] + ", " + cells[i + 1], x.pillars(0, 0, lane, i, 1), OUTSIDE);
            }
            due("4 257, cut to a byte 1", x.pillars(0, 0, lane, 16, 1), lane == 0 ? many + 1 : OUTSIDE);
            due("4 65537, cut to 1", x.pillars(0, 0, lane, 18, 1), lane < 2 ? x.about(0, 8) : OUTSIDE);
        }
    }

    private static DragonJars withRow(int... cells) {
        DragonJars x = new DragonJars();
        x.house(0, 1, 1, 1, 1);
        x.sheet(0, 1, cells.length);
        for (int i = 0; i < cells.length; i++) {
            x.put(0, i, cells[i]);
        }
        return x;
    }

    private static void pillarsUpToSix() {
        for (int before = 0; before <= 6; before++) {
            for (int n = 0; n <= 7; n++) {
                DragonJars x = withRow(9, 0, 9, 0, 9, 0, 9, 0, 9, 0, 9, 0, 9, 0);
                for (int p = 0; p < before; p++) {
                    x.pillar(0, 5, -1);
                }
                int want = before + n <= 6 ? before + n : FULL;
                due("4 " + n + " behind " + before, x.pillars(0, 0, 1, 0, n), want);
                due("4 how many it has", x.about(0, 8), want == FULL ? before : want);
                due("4 fault()", x.fault(), 0);
            }
        }
    }

    private static void pillarsOfTheFirstRefused() {
        // The one of an OUTSIDE WIDTH is the fifth; before it five, four, one can come, or none.
        for (int before = 0; before <= 6; before++) {
            DragonJars x = withRow(9, 0, 9, 0, 9, 0, 9, 0, 0, 0, 9, 0, 9, 0);
            for (int p = 0; p < before; p++) {
                x.pillar(0, 5, -1);
            }
            int want = before + 4 <= 6 ? OUTSIDE : FULL;
            due("4 behind " + before, x.pillars(0, 0, 1, 0, 7), want);
            due("4 none came", x.about(0, 8), before);
        }
        DragonJars y = withRow(9, 0, 9, 8);
        for (int p = 0; p < 5; p++) {
            y.pillar(0, 5, -1);
        }
        due("4 of one that is both, outside", y.pillars(0, 0, 1, 0, 2), OUTSIDE);
        due("4 none came", y.about(0, 8), 5);
        due("4 there was room for the first", y.pillars(0, 0, 1, 0, 1), 6);
    }

    private static void pillarsInTheLastHouse() {
        DragonJars x = withRow(9, 0, 8, 1);
        for (int h = 1; h < 8; h++) {
            x.house(0, 1, 1, 1, 1);
        }
        due("4 house 7", x.pillars(7, 0, 1, 0, 2), 2);
        due("4 house 8", x.pillars(8, 0, 1, 0, 2), UNKNOWN);
        due("4 sheet 4", x.pillars(7, 4, 1, 0, 2), UNKNOWN);
        due("4 others have none", x.many(1), 2);
        due("4 fallen(7, 1, 0)", x.fallen(7, 1, 0), 8);
    }
}
