/** Promises 4 and 31 to 34: sheets, and pillars that come by them. */
public final class SheetTest {
    private static final int UNKNOWN = DragonJars.UNKNOWN, OUTSIDE = DragonJars.OUTSIDE,
        FULL = DragonJars.FULL, NONE = DragonJars.NONE;
    private static final long LOST = DragonJars.LOST;
    private static final Check CHECK = new Check("SheetTest");

    public static void main(String[] args) {
        sheet();
        lose();
        lanes();
        put();
        at();
        pillarsCome();
        pillarsRefuse();
        pillarsFault();
        CHECK.finish();
    }

    private static void due(String call, long got, long want) {
        CHECK.due(call, got, want);
    }

    private static void sheet() {
        DragonJars x = new DragonJars();
        due("31 sheet(-1, 9, 99)", x.sheet(-1, 9, 99), UNKNOWN);
        due("31 sheet(4, 0, 0)", x.sheet(4, 0, 0), UNKNOWN);
        due("31 sheet(0, -1, 0)", x.sheet(0, -1, 0), OUTSIDE);
        due("31 sheet(0, 3, -1), outside ahead of size", x.sheet(0, 3, -1), OUTSIDE);
        due("31 fault()", x.fault(), 0);
        due("31 sheet(0, 0, 41)", x.sheet(0, 0, 41), OUTSIDE);
        due("31 sheet(0, 0, -1)", x.sheet(0, 0, -1), -14);
        due("31 fault()", x.fault(), 4);
        due("31 it has nothing yet", x.lose(0), 0);
        due("31 sheet(0, 0, 0)", x.sheet(0, 0, 0), 1);
        due("31 fault()", x.fault(), 0);
        due("31 no cell 0", x.put(0, 0, 1), -13);
        due("31 sheet(0, 2, 40)", x.sheet(0, 2, 40), 1);
        due("31 put(0, 39, 5)", x.put(0, 39, 5), 1);
        due("31 a failed one changes nothing", x.sheet(0, 1, -5), -14);
        due("31 at(0, 39, 2)", x.at(0, 39, 2), 5);
        due("31 a new row", x.sheet(0, 2, 40), 1);
        due("31 is 0 at first", x.at(0, 39, 2), 0);
    }

    private static void lose() {
        DragonJars x = new DragonJars();
        due("32 lose(-1)", x.lose(-1), UNKNOWN);
        due("32 lose(4)", x.lose(4), UNKNOWN);
        due("32 lose(3)", x.lose(3), 0);
        x.sheet(3, 0, 0);
        due("32 lose(3), of no cells", x.lose(3), 1);
        due("32 lose(3)", x.lose(3), 0);
        x.put(3, 0, 0);
        due("32 fault()", x.fault(), 1);
        x.lose(3);
        x.lose(9);
        due("32 lose names no faults", x.fault(), 1);
    }

    private static void lanes() {
        int[] values = {0, 1, -1, 127, 128, 255, 256, -129, 32767, 32768, -32769, 70000,
            Integer.MAX_VALUE, Integer.MIN_VALUE};
        DragonJars x = new DragonJars();
        for (int lane = 0; lane < 3; lane++) {
            x.sheet(lane, lane, values.length);
            for (int i = 0; i < values.length; i++) {
                x.put(lane, i, values[i]);
                long want = lane == 0 ? (byte) values[i] : lane == 1 ? (short) values[i] : values[i];
                due("33 lane " + lane + ", " + values[i], x.at(lane, i, lane), want);
            }
        }
    }

    private static void put() {
        DragonJars x = new DragonJars();
        due("33 put(-1, 0, 0)", x.put(-1, 0, 0), UNKNOWN);
        due("33 put(4, 0, 0)", x.put(4, 0, 0), UNKNOWN);
        due("33 put(0, -1, 0), nothing ahead of index", x.put(0, -1, 0), -11);
        due("33 fault()", x.fault(), 1);
        x.sheet(0, 1, 3);
        due("33 fault(), of sheet()", x.fault(), 0);
        due("33 put(0, -1, 0)", x.put(0, -1, 0), -13);
        due("33 put(0, 3, 0)", x.put(0, 3, 0), -13);
        due("33 fault()", x.fault(), 3);
        due("33 put(9, 0, 0), refused", x.put(9, 0, 0), UNKNOWN);
        due("33 fault()", x.fault(), 0);
        due("33 put(0, 2, 8)", x.put(0, 2, 8), 1);
        due("33 at(0, 2, 1)", x.at(0, 2, 1), 8);
        x.put(0, Integer.MAX_VALUE, 1);
        due("33 fault()", x.fault(), 3);
        x.put(0, Integer.MIN_VALUE, 1);
        due("33 fault()", x.fault(), 3);
    }

    private static void at() {
        DragonJars x = new DragonJars();
        x.sheet(0, 1, 3);
        x.put(0, 9, 9);
        due("34 at(4, 9, 9)", x.at(4, 9, 9), LOST);
        due("34 fault(), refused", x.fault(), 0);
        x.put(0, 9, 9);
        due("34 at(0, 0, 3)", x.at(0, 0, 3), LOST);
        due("34 fault(), refused", x.fault(), 0);
        due("34 at(0, 0, -1)", x.at(0, 0, -1), LOST);
        due("34 at(0, 9, 0)", x.at(0, 9, 0), LOST);
        due("34 fault(), cast ahead of index", x.fault(), 2);
        due("34 at(1, 9, 0)", x.at(1, 9, 0), LOST);
        due("34 fault(), nothing is no cast", x.fault(), 1);
        due("34 at(0, 3, 1)", x.at(0, 3, 1), LOST);
        due("34 fault()", x.fault(), 3);
        due("34 at(0, 0, 1)", x.at(0, 0, 1), 0);
        due("34 fault()", x.fault(), 0);
    }

    private static DragonJars withCells(int... cells) {
        DragonJars x = new DragonJars();
        x.house(0, 1, 1, 1, 1);
        x.sheet(1, 2, cells.length);
        for (int i = 0; i < cells.length; i++) {
            x.put(1, i, cells[i]);
        }
        return x;
    }

    private static void pillarsCome() {
        DragonJars x = withCells(99, 10, -1, 240, 7, 1, 0);
        due("4 none of them", x.pillars(0, 1, 2, 0, 0), 0);
        due("4 none of them, at the end", x.pillars(0, 1, 2, 7, 0), 0);
        due("4 three", x.pillars(0, 1, 2, 1, 3), 3);
        int[][] want = {{10, -1}, {240, 7}, {1, 0}};
        for (int p = 0; p < 3; p++) {
            due("4 width", x.fallen(0, p, 0), want[p][0]);
            due("4 lean", x.fallen(0, p, 1), want[p][1]);
            due("4 it stands", x.fallen(0, p, 2), NONE);
        }
        due("4 one more", x.pillars(0, 1, 2, 3, 1), 4);
        due("4 two more", x.pillars(0, 1, 2, 3, 2), 6);
        due("4 none more", x.pillars(0, 1, 2, 3, 0), 6);
        due("4 fault()", x.fault(), 0);
    }

    private static void pillarsRefuse() {
        DragonJars x = withCells(10, -1, 20, 0, 0, 0, 30, 8, 40, 0, 50, 0, 60, 0, 70, 0, 80, 0, 80, 0, 5, 0, 0, 0);
        due("4 no house", x.pillars(1, 1, 9, 0, 1), UNKNOWN);
        due("4 no sheet", x.pillars(0, 4, 9, 0, 1), UNKNOWN);
        due("4 sheet -1", x.pillars(0, -1, 2, 0, 1), UNKNOWN);
        due("4 lane -1", x.pillars(0, 1, -1, 0, 1), OUTSIDE);
        due("4 lane 3, ahead of nothing", x.pillars(0, 0, 3, 0, 1), OUTSIDE);
        due("4 width 0", x.pillars(0, 1, 2, 0, 3), OUTSIDE);
        due("4 lean 8", x.pillars(0, 1, 2, 6, 1), OUTSIDE);
        due("4 none came", x.about(0, 8), 0);
        due("4 the seventh", x.pillars(0, 1, 2, 8, 7), FULL);
        due("4 the first that is refused tells", x.pillars(0, 1, 2, 8, 8), FULL);
        due("4 the seventh, outside ahead of full", x.pillars(0, 1, 2, 10, 7), OUTSIDE);
        due("4 none came", x.about(0, 8), 0);
        due("4 six", x.pillars(0, 1, 2, 8, 6), 6);
        due("4 full", x.pillars(0, 1, 2, 8, 1), FULL);
        due("4 full is the first of them ahead", x.pillars(0, 1, 2, 8, 7), FULL);
        due("4 outside is ahead of full, of one", x.pillars(0, 1, 2, 4, 2), OUTSIDE);
        due("4 fault()", x.fault(), 0);
    }

    private static void pillarsFault() {
        DragonJars x = withCells(10, -1, 20, 0);
        due("4 cast", x.pillars(0, 1, 1, 9, -1), -12);
        due("4 fault()", x.fault(), 2);
        due("4 nothing", x.pillars(0, 0, 1, 9, -1), -11);
        due("4 fault()", x.fault(), 1);
        due("4 size", x.pillars(0, 1, 2, 9, -1), -14);
        due("4 fault()", x.fault(), 4);
        due("4 index", x.pillars(0, 1, 2, 1, 2), -13);
        due("4 fault()", x.fault(), 3);
        due("4 index below 0", x.pillars(0, 1, 2, -1, 1), -13);
        due("4 index, so many that they wrap", x.pillars(0, 1, 2, 0, 0x40000001), -13);
        due("4 index, so far that it wraps", x.pillars(0, 1, 2, Integer.MAX_VALUE, 1), -13);
        due("4 index ahead of outside", x.pillars(0, 1, 2, 0, 3), -13);
        due("4 refused", x.pillars(7, 1, 2, 0, 3), UNKNOWN);
        due("4 fault()", x.fault(), 0);
        due("4 none came", x.many(1), 0);
        due("4 all", x.pillars(0, 1, 2, 0, 2), 2);
    }
}
