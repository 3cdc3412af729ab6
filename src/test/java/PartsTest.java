/** Promises 35 to 40: telling, guarding, kinds, trace, fault, many. */
public final class PartsTest {
    private static final int UNKNOWN = DragonJars.UNKNOWN, OUTSIDE = DragonJars.OUTSIDE;
    private static final Check CHECK = new Check("PartsTest");

    public static void main(String[] args) {
        tell();
        guard();
        traceWraps();
        as();
        fault();
        many();
        CHECK.finish();
    }

    private static void due(String call, long got, long want) {
        CHECK.due(call, got, want);
    }

    private static DragonJars threeHouses() {
        DragonJars x = new DragonJars();
        for (int kind = 0; kind < 3; kind++) {
            x.house(kind, kind, kind, 10 + kind, 20 + kind);
            for (int p = 0; p <= kind; p++) {
                x.pillar(kind, 5, -1);
            }
        }
        return x;
    }

    private static int after(int trace, int... numbers) {
        int now = trace;
        for (int number : numbers) {
            now = 31 * now + number;
        }
        return now;
    }

    private static void tell() {
        DragonJars x = threeHouses();
        due("35 tell(-1)", x.tell(-1), UNKNOWN);
        due("35 tell(3)", x.tell(3), UNKNOWN);
        due("38 trace()", x.trace(), 0);
        due("35 a hut", x.tell(0), 10);
        int trace = after(0, 1);
        due("38 trace()", x.trace(), trace);
        due("35 a hall", x.tell(1), 11 + 2);
        trace = after(trace, 2, 1);
        due("38 trace()", x.trace(), trace);
        due("35 a temple", x.tell(2), 12 + 3 + 12);
        trace = after(trace, 3, 2, 1, 1);
        due("38 trace()", x.trace(), trace);
        due("38 asking leaves nothing", x.trace(), trace);
    }

    private static void guard() {
        DragonJars x = threeHouses();
        due("36 guard(-1)", x.guard(-1), UNKNOWN);
        due("36 guard(3)", x.guard(3), UNKNOWN);
        due("36 a hut", x.guard(0), 20);
        due("36 a hall", x.guard(1), 1 + 21);
        due("36 a temple", x.guard(2), 300);
        due("38 trace()", x.trace(), after(0, 4, 4, 5));
    }

    private static void traceWraps() {
        DragonJars x = threeHouses();
        int trace = 0;
        boolean below = false;
        for (int i = 0; i < 30; i++) {
            x.tell(2);
            trace = after(trace, 3, 2, 1, 1);
            below |= trace < 0;
            due("38 trace()", x.trace(), trace);
        }
        CHECK.dueTrue("38 it wrapped", below);
    }

    private static void as() {
        DragonJars x = threeHouses();
        due("37 as(3, 9)", x.as(3, 9), UNKNOWN);
        due("37 as(0, -1)", x.as(0, -1), OUTSIDE);
        due("37 as(0, 3)", x.as(0, 3), OUTSIDE);
        for (int h = 0; h < 3; h++) {
            for (int kind = 0; kind < 3; kind++) {
                due("37 as(" + h + ", " + kind + ")", x.as(h, kind), h >= kind ? 1 : -12);
                due("37 fault()", x.fault(), h >= kind ? 0 : 2);
            }
        }
    }

    private static void fault() {
        DragonJars x = threeHouses();
        due("39 ahead of any", x.fault(), 0);
        x.as(0, 2);
        x.tell(9);
        x.house(9, 9, 9, 9, 9);
        x.lose(0);
        x.fits();
        due("39 others leave it", x.fault(), 2);
        due("39 asking leaves it", x.fault(), 2);
        x.as(9, 0);
        due("39 refused", x.fault(), 0);
        x.as(0, 2);
        x.as(0, 9);
        due("39 refused", x.fault(), 0);
        x.as(0, 2);
        x.pillars(0, 9, 0, 0, 0);
        due("39 refused", x.fault(), 0);
        x.as(0, 2);
        x.which(9, 0, 0, 0, 0, 0, 0);
        due("39 refused", x.fault(), 0);
        x.as(0, 2);
        x.sheet(9, 0, 0);
        due("39 refused", x.fault(), 0);
        x.as(0, 2);
        x.put(9, 0, 0);
        due("39 refused", x.fault(), 0);
        x.as(0, 2);
        x.at(9, 0, 0);
        due("39 refused", x.fault(), 0);
    }

    private static void many() {
        DragonJars x = threeHouses();
        x.report(3, 0, 0, 1);
        x.report(3, 0, 0, 1);
        x.turn(1, false);
        x.was(0, 0, 1, 0);
        x.shake(1, 0, 0, 12, 0, 0);
        x.shake(11, 11, 3, 1, 0, 0);
        int[] want = {3, 6, 2, 1, 3, 0};
        for (int what = 0; what < 6; what++) {
            due("40 many(" + what + ")", x.many(what), want[what]);
        }
        x.set(1);
        due("40 many(5)", x.many(5), 1);
        due("40 many(-1)", x.many(-1), OUTSIDE);
        due("40 many(6)", x.many(6), OUTSIDE);
    }
}
