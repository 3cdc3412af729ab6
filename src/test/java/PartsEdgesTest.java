/** Promises 35 to 40 at their edges: no house, the last; TRACE that wraps; each call and its fault. */
public final class PartsEdgesTest {
    private static final int UNKNOWN = DragonJars.UNKNOWN, OUTSIDE = DragonJars.OUTSIDE;
    private static final Check CHECK = new Check("PartsEdgesTest");

    public static void main(String[] args) {
        tellLeastAndMost();
        guardLeastAndMost();
        refusedLeaveNoTrace();
        traceWrapsAtLast();
        asOfEachKind();
        faultOfEachCall();
        faultStays();
        manyOfNoneAndAll();
        CHECK.finish();
    }

    private static void due(String call, long got, long want) {
        CHECK.due(call, got, want);
    }

    private static DragonJars houses(int jar, int stop, int pillars) {
        DragonJars x = new DragonJars();
        for (int kind = 0; kind < 3; kind++) {
            x.house(kind, 0, 0, jar, stop);
            for (int p = 0; p < pillars; p++) {
                x.pillar(kind, 1, -1);
            }
        }
        return x;
    }

    private static void tellLeastAndMost() {
        DragonJars least = houses(1, 1, 0);
        due("35 a hut", least.tell(0), 1);
        due("35 a hall without pillars", least.tell(1), 1);
        due("35 a temple without pillars", least.tell(2), 2);
        DragonJars most = houses(240, 240, 6);
        due("35 a hut's pillars don't count", most.tell(0), 240);
        due("35 a hall", most.tell(1), 246);
        due("35 a temple", most.tell(2), 486);
        most.shake(1, 0, 0, 12, 0, 0);
        due("35 fallen ones count, too", most.tell(1), 246);
    }

    private static void guardLeastAndMost() {
        DragonJars x = new DragonJars();
        for (int h = 0; h < 8; h++) {
            x.house(h == 3 ? 2 : h % 2, 0, 0, 1, h == 0 ? 1 : 240);
        }
        due("36 the first, stop 1", x.guard(0), 1);
        due("36 a hall", x.guard(1), 241);
        due("36 a temple, whatever its number", x.guard(3), 300);
        due("36 the last", x.guard(7), 247);
        due("36 there is none", x.guard(8), UNKNOWN);
        due("36 there is none", x.guard(-1), UNKNOWN);
    }

    private static void refusedLeaveNoTrace() {
        DragonJars x = houses(1, 1, 0);
        x.tell(0);
        due("38 trace()", x.trace(), 1);
        int[] none = {-1, 3, 8, Integer.MIN_VALUE, Integer.MAX_VALUE};
        for (int h : none) {
            due("35 tell(" + h + ")", x.tell(h), UNKNOWN);
            due("36 guard(" + h + ")", x.guard(h), UNKNOWN);
        }
        due("38 trace()", x.trace(), 1);
        x.guard(2);
        due("38 31 and 5", x.trace(), 36);
    }

    private static void traceWrapsAtLast() {
        DragonJars x = houses(1, 1, 0);
        int[] ones = {1, 32, 993, 30784, 954305, 29583456, 917087137, -1635069824};
        for (int one : ones) {
            x.tell(0);
            due("38 trace()", x.trace(), one);
        }
        x.guard(0);
        due("38 it wraps again", x.trace(), (int) (31L * -1635069824L + 4));
        due("38 below 0 or not, as an int does", x.trace(), 852443012);
    }

    private static void asOfEachKind() {
        DragonJars x = houses(1, 1, 0);
        int[][] want = {{OUTSIDE, 1, -12, -12, OUTSIDE}, {OUTSIDE, 1, 1, -12, OUTSIDE}, {OUTSIDE, 1, 1, 1, OUTSIDE}};
        for (int h = 0; h < 3; h++) {
            for (int kind = -1; kind <= 3; kind++) {
                due("37 as(" + h + ", " + kind + ")", x.as(h, kind), want[h][kind + 1]);
                due("37 fault()", x.fault(), want[h][kind + 1] == -12 ? 2 : 0);
                due("37 it is what it was", x.about(h, 0), h);
            }
        }
        due("37 unknown ahead of outside", x.as(3, 3), UNKNOWN);
    }

    /** Behind another fault, that of each call that names some; a call that is taken takes it away. */
    private static void faultOfEachCall() {
        String[][] calls = {
            {"pillars 0 3 0 0 1", "1"}, {"pillars 0 0 1 0 1", "2"}, {"pillars 0 0 0 40 1", "3"},
            {"pillars 0 0 0 0 -1", "4"}, {"pillars 0 0 0 0 1", "0"}, {"pillars 9 0 0 0 1", "0"},
            {"pillars 0 0 9 0 1", "0"}, {"pillars 0 0 0 4 1", "0"}, {"pillars 0 0 0 0 0", "0"},
            {"which 0 1 3 0 20 1 0", "1"}, {"which 0 1 0 1 20 1 0", "2"}, {"which 0 1 0 0 40 1 0", "3"},
            {"which 0 1 0 0 20 -1 0", "4"}, {"which 0 1 0 0 20 1 0", "0"}, {"which 9 1 0 0 20 1 0", "0"},
            {"which 0 9 0 0 20 1 0", "0"}, {"which 0 1 0 0 25 1 0", "0"}, {"which 0 1 0 0 20 9 0", "0"},
            {"sheet 0 0 -1", "4"}, {"sheet 0 0 0", "0"}, {"sheet 9 0 0", "0"}, {"sheet 0 0 41", "0"},
            {"put 3 0 0", "1"}, {"put 0 40 0", "3"}, {"put 0 0 0", "0"}, {"put 9 0 0", "0"},
            {"at 3 0 0", "1"}, {"at 0 0 1", "2"}, {"at 0 40 0", "3"}, {"at 0 0 0", "0"}, {"at 9 0 0", "0"},
            {"at 0 0 9", "0"}, {"as 0 1", "2"}, {"as 0 0", "0"}, {"as 9 0", "0"}, {"as 0 9", "0"},
        };
        for (String[] call : calls) {
            for (String before : new String[] {"put 3 0 0", "as 0 2", "at 0 -1 0", "sheet 0 0 -1"}) {
                DragonJars x = Scene.PLAIN.made();
                Call.of(before).on(x);
                CHECK.dueTrue("39 there is a fault from before", x.fault() != 0);
                Call.of(call[0]).on(x);
                due("39 " + call[0] + ", then fault()", x.fault(), Integer.parseInt(call[1]));
            }
        }
    }

    /** Calls that name none leave fault() as it is, taken or refused. */
    private static void faultStays() {
        String[] calls = {
            "house 0 1 1 1 1", "house 9 1 1 1 1", "pillar 0 1 1", "pillar 9 1 1", "clock 0 1 1", "clock 9 1 1",
            "wind 0 0", "wind 9 0", "set 0", "set 9", "about 0 0", "about 9 0", "stopped 0", "stopped 9",
            "fallen 0 0 0", "fallen 9 0 0", "would 0 1 1 1 1 1 1", "would 9 1 1 1 1 1 1", "shake 1 1 1 1 1 1",
            "shake 99 1 1 1 1 1", "report 3 0 0 1", "report 3 9 0 1", "look 0", "look 9", "turn 0 0", "turn 99 0",
            "told 0 0", "told 99 0", "forget", "fits", "fit 0 0", "fit -1 0", "span 0 0", "span 9 0", "way 0",
            "way 9", "nearest 0", "nearest 9", "wrong 0", "wrong 99", "mistaken", "cart 0", "cart 99", "next 1 0",
            "next 0 0", "was 1 1 1 1", "was 99 1 1 1", "row 0 0", "row 99 0", "families 0", "families 9",
            "lose 0", "lose 3", "lose 9", "tell 0", "tell 9", "guard 0", "guard 9", "trace", "fault", "many 0",
            "many 9",
        };
        for (String call : calls) {
            DragonJars x = Scene.PLAIN.made();
            due("39 fault()", x.fault(), 0);
            Call.of(call).on(x);
            due("39 " + call + ", then fault()", x.fault(), 0);
            x.as(0, 2);
            Call.of(call).on(x);
            due("39 " + call + ", then fault()", x.fault(), 2);
        }
    }

    private static void manyOfNoneAndAll() {
        int[] none = {0, 0, 0, 0, 0, 0};
        int[] all = {8, 48, 40, 40, 12, 0};
        DragonJars x = Scene.FULL.made();
        DragonJars y = new DragonJars();
        int ready = 0;
        for (int h = 0; h < 8; h++) {
            ready += x.about(h, 9) == DragonJars.NONE ? 1 : 0;
        }
        all[5] = ready;
        for (int what = 0; what < 6; what++) {
            due("40 many(" + what + ") of a full land", x.many(what), all[what]);
            due("40 many(" + what + ") of none", y.many(what), none[what]);
        }
        for (int h = 0; h < 8; h++) {
            x.set(h);
        }
        due("40 all are ready", x.many(5), 8);
        for (int r = 0; r < 40; r++) {
            x.turn(r, false);
        }
        due("40 none is on", x.many(3), 0);
        due("40 but they are there", x.many(2), 40);
        due("40 many(-1)", x.many(-1), OUTSIDE);
        due("40 many(6)", x.many(6), OUTSIDE);
    }
}
