import java.lang.reflect.Method;
import java.util.Random;

/** Random runs of calls, each answered by DragonJars as PlainModel answers it. Arguments: runs, seed. */
public final class RandomRunsTest {
    // What each argument of each call is: h house, p pillar, r report, k sheet, x place, z depth,
    // s strength, u kind of shake, f force, l lean, t time, o off, m slip, c kind of house, b boolean,
    // a lane, i cell, n how many, v any number, g number of a guess, w shake of the row, j one to three,
    // P, W the sheets with pillars, with widths and L, N their lanes, e, d how many of these; or the
    // greatest "what" (B: 11).
    private static final String[] LAND = {
        "house cxxff", "pillar hfl", "clock hom", "wind hb", "set h", "shake xxzsut", "shake xxzsut",
        "pillars hkain", "was xxst", "pillar hfl", "house cxxff",
    };
    private static final String[] BOOK = {
        "look h", "look h", "turn rb", "forget ", "report ", "report ", "report ", "clock hom",
    };
    private static final String[] ASK = {
        "about hB", "stopped h", "fallen hp2", "would hxxzsu2", "told r4", "fits ", "fit g4", "span 51",
        "way h", "nearest 6", "wrong r", "mistaken ", "cart r", "cart r", "next f2", "which hjWNid1",
        "row w7", "families 1", "many 5", "which hjWNid1", "pillars hPLie",
    };
    private static final String[] PARTS = {
        "sheet kan", "lose k", "put kiv", "put kif", "put kif", "put kil", "at kia", "tell h", "guard h",
        "as hc", "trace ", "fault ", "fault ", "pillars hkain", "which hjkain1",
    };

    private final Random random;
    private final Check check;
    private DragonJars real;
    private PlainModel plain;
    private StringBuilder story;
    private int run;

    private RandomRunsTest(long seed, Check check) {
        this.random = new Random(seed);
        this.check = check;
    }

    public static void main(String[] args) throws ReflectiveOperationException {
        int runs = args.length > 0 ? Integer.parseInt(args[0]) : 60;
        long seed = args.length > 1 ? Long.parseLong(args[1]) : 20261118L;
        Check check = new Check("RandomRunsTest");
        RandomRunsTest test = new RandomRunsTest(seed, check);
        for (int run = 0; run < runs && check.isClean(); run++) {
            test.runOne(run);
        }
        check.finish();
    }

    private void runOne(int number) throws ReflectiveOperationException {
        run = number;
        real = new DragonJars();
        plain = new PlainModel();
        story = new StringBuilder();
        int houses = 1 + random.nextInt(5);
        for (int i = 0; i < houses; i++) {
            call("house cxxff");
        }
        fillSheets();
        some(LAND, random.nextInt(12));
        some(PARTS, random.nextInt(20));
        for (int round = 0; round < 4; round++) {
            call("shake xxzsut");
            some(LAND, random.nextInt(4));
            some(BOOK, random.nextInt(6));
            someClocks(random.nextInt(4) == 0 ? 2 + random.nextInt(8) : 0);
            some(ASK, 8);
            some(PARTS, random.nextInt(10));
            if (random.nextInt(3) == 0) {
                call("forget ");
            }
        }
        some(ASK, 6);
    }

    private void fillSheets() throws ReflectiveOperationException {
        both("sheet", 0, 0, 20);
        both("sheet", 1, 2, 20);
        for (int i = 0; i < 20; i++) {
            both("put", 0, i, i % 2 == 0 ? number('f') : number('l'));
            both("put", 1, i, number('f'));
        }
    }

    private void someClocks(int n) throws ReflectiveOperationException {
        for (int i = 0; i < n; i++) {
            both("report", 2, number('h'), 0, between(-20, 60));
        }
    }

    private void some(String[] calls, int n) throws ReflectiveOperationException {
        for (int i = 0; i < n; i++) {
            call(calls[random.nextInt(calls.length)]);
        }
    }

    private void call(String told) throws ReflectiveOperationException {
        if (!check.isClean()) {
            return;
        }
        int blank = told.indexOf(' ');
        String name = told.substring(0, blank);
        String kinds = told.substring(blank + 1);
        Object[] with = name.equals("report") ? report() : new Object[kinds.length()];
        for (int i = 0; i < kinds.length(); i++) {
            with[i] = kinds.charAt(i) == 'b' ? (Object) random.nextBoolean() : (Object) number(kinds.charAt(i));
        }
        both(name, with);
    }

    private void both(String name, Object... with) throws ReflectiveOperationException {
        Class<?>[] types = new Class<?>[with.length];
        StringBuilder text = new StringBuilder(name).append('(');
        for (int i = 0; i < with.length; i++) {
            types[i] = with[i] instanceof Boolean ? boolean.class : int.class;
            text.append(i == 0 ? "" : ", ").append(with[i]);
        }
        text.append(')');
        Method realMethod = DragonJars.class.getMethod(name, types);
        Method plainMethod = PlainModel.class.getMethod(name, types);
        long want = ((Number) plainMethod.invoke(plain, with)).longValue();
        long got = ((Number) realMethod.invoke(real, with)).longValue();
        story.append(text).append(" = ").append(want).append('\n');
        if (got != want) {
            System.out.println("run " + run + ":\n" + story);
        }
        check.due("run " + run + ": " + text, got, want);
    }

    private Object[] report() {
        int kind = number('4');
        int v;
        switch (kind) {
            case 0: v = between(-1, 7); break;
            case 1: v = between(-2, 8); break;
            case 2: v = number('t') + between(-60, 60); break;
            default: v = number('f');
        }
        return new Object[] {kind, number('h'), number('p'), v};
    }

    private int between(int least, int greatest) {
        return random.nextInt(40) == 0
            ? (random.nextBoolean() ? least - 1 : greatest + 1)
            : least + random.nextInt(greatest - least + 1);
    }

    private int number(char kind) {
        if (random.nextInt(400) == 0) {
            int[] odd = {Integer.MIN_VALUE, Integer.MAX_VALUE, -1, 1 << 30, -9};
            return odd[random.nextInt(odd.length)];
        }
        switch (kind) {
            case 'h': return between(0, Math.max(0, plain.many(0) - 1));
            case 'p': return between(0, 2);
            case 'r': return between(0, Math.max(0, plain.many(2) - 1));
            case 'k': return between(0, 3);
            case 'x': return between(0, 11);
            case 'z': return random.nextInt(3) == 0 ? between(0, 3) : 0;
            case 's': return between(1, 12);
            case 'u': return random.nextInt(4) == 0 ? 1 : between(0, 1);
            case 'f': return random.nextInt(5) == 0 ? between(1, 240) : between(1, 40);
            case 'l': return between(-1, 7);
            case 't': return random.nextInt(6) == 0 ? (random.nextBoolean() ? 0 : 1000000) : between(0, 300);
            case 'o': return between(-50, 50);
            case 'm': return between(0, 20);
            case 'c': return between(0, 2);
            case 'a': return random.nextInt(4) == 0 ? between(0, 2) : 0;
            case 'i': return between(0, 6);
            case 'n': return random.nextInt(3) == 0 ? between(0, 40) : between(0, 8);
            case 'P': return random.nextInt(9) == 0 ? between(0, 3) : 0;
            case 'W': return random.nextInt(9) == 0 ? between(0, 3) : 1;
            case 'L': return random.nextInt(9) == 0 ? between(0, 2) : 0;
            case 'N': return random.nextInt(9) == 0 ? between(0, 2) : 2;
            case 'e': return between(0, 3);
            case 'd': return between(1, 8);
            case 'v': return random.nextInt();
            case 'g': return between(0, 30);
            case 'w': return between(0, Math.max(0, plain.many(4) - 1));
            case 'j': return between(1, 3);
            case 'B': return between(0, 11);
            default: return between(0, kind - '0');
        }
    }
}
