import java.util.ArrayList;
import java.util.List;

/**
 * All that can be asked of an object, but fault(), which asking changes. Every part is asked of an object
 * made anew, as one is used for 512 calls at most.
 */
final class Whole {
    private static final int PARTS = 9;
    private static final int FIRST_SHEET_PART = 5;

    private final List<Long> answers = new ArrayList<>();
    private final List<String> calls = new ArrayList<>();

    /** What there is behind a scene and some calls more. */
    static Whole behind(Scene scene, Call... more) {
        Whole whole = new Whole();
        for (int part = 0; part < PARTS; part++) {
            DragonJars x = scene.made();
            for (Call call : more) {
                call.on(x);
            }
            whole.askPart(x, part);
        }
        return whole;
    }

    /** The first answer that differs from another's, told; empty: none does. */
    String firstOther(Whole other) {
        for (int i = 0; i < answers.size(); i++) {
            if (!answers.get(i).equals(other.answers.get(i))) {
                return calls.get(i) + " is " + answers.get(i) + ", not " + other.answers.get(i);
            }
        }
        return "";
    }

    private void askPart(DragonJars x, int part) {
        switch (part) {
            case 0: askAll(x); break;
            case 1: ask(x, "about", 8, 12); ask(x, "stopped", 8); break;
            case 2: ask(x, "fallen", 8, 6, 3); break;
            case 3: ask(x, "told", 40, 5); ask(x, "wrong", 40); break;
            case 4: ask(x, "row", 12, 8); ask(x, "cart", 40); ask(x, "fit", 5, 5); break;
            default: askSheet(x, part - FIRST_SHEET_PART);
        }
    }

    private void askAll(DragonJars x) {
        ask(x, "trace");
        ask(x, "many", 6);
        ask(x, "fits");
        ask(x, "span", 6, 2);
        ask(x, "nearest", 7);
        ask(x, "mistaken");
        ask(x, "families", 2);
        ask(x, "way", 8);
        ask(x, "next", 12, 3);
    }

    private void askSheet(DragonJars x, int k) {
        for (int lane = 0; lane < 3; lane++) {
            askOne(x, "at " + k + " 0 " + lane);
            askOne(x, "fault");
            for (int i = 1; i < 40; i++) {
                askOne(x, "at " + k + " " + i + " " + lane);
            }
        }
    }

    /** A call with all numbers below these. */
    private void ask(DragonJars x, String name, int... below) {
        int[] with = new int[below.length];
        int place = 0;
        while (place >= 0) {
            StringBuilder text = new StringBuilder(name);
            for (int number : with) {
                text.append(' ').append(number);
            }
            askOne(x, text.toString());
            place = below.length - 1;
            while (place >= 0 && ++with[place] == below[place]) {
                with[place--] = 0;
            }
        }
    }

    private void askOne(DragonJars x, String text) {
        calls.add(text);
        answers.add(Call.of(text).on(x));
    }
}
