import java.util.ArrayList;
import java.util.List;

/** Calls that bring a new object to where a test begins: it can be made again and again. */
final class Scene {
    static final Scene EMPTY = new Scene();

    /** A hut, a hall, a temple; something of everything; SHEET 3 has nothing, PILLARS are at 0, WIDTHS at 20. */
    static final Scene PLAIN = EMPTY.and(
        "house 0 3 3 20 10", "house 1 8 2 15 12", "house 2 5 9 30 8",
        "pillar 0 30 2", "pillar 0 40 1", "pillar 1 25 7", "clock 0 -5 2",
        "was 1 1 3 10", "shake 6 4 0 9 0 100", "set 1", "look 0", "look 2", "report 3 1 0 30",
        "report 0 1 0 -1", "turn 8 0", "tell 2").withSheets();

    static final Scene NONE_FITS = PLAIN.and("report 4 0 0 1", "report 3 0 0 240");

    /** As many of everything as there can be; all REPORTS FIT. */
    static final Scene FULL = full();

    private final List<Call> calls = new ArrayList<>();
    private Whole whole = null;

    /** What there is in the scene as it is. */
    Whole whole() {
        if (whole == null) {
            whole = Whole.behind(this);
        }
        return whole;
    }

    Scene and(String... more) {
        Scene scene = new Scene();
        scene.calls.addAll(calls);
        for (String text : more) {
            scene.calls.add(Call.of(text));
        }
        return scene;
    }

    private Scene withSheets() {
        int[] cells = {10, -1, 20, 3, 0, 3, 20, 8};
        int[] widths = {5, 20, 40, 60, 100, 0, 7};
        List<String> more = new ArrayList<>();
        for (int k = 0; k < 3; k++) {
            more.add("sheet " + k + " " + k + " 40");
            for (int i = 0; i < cells.length; i++) {
                more.add("put " + k + " " + i + " " + cells[i]);
            }
            for (int i = 0; i < widths.length; i++) {
                more.add("put " + k + " " + (20 + i) + " " + widths[i]);
            }
        }
        return and(more.toArray(new String[0]));
    }

    private static Scene full() {
        List<String> more = new ArrayList<>();
        for (int h = 0; h < 8; h++) {
            more.add("house " + h % 3 + " " + (5 * h + 1) % 12 + " " + (7 * h) % 12 + " " + (9 + h) + " 20");
            for (int p = 0; p < 6; p++) {
                more.add("pillar " + h + " " + (9 + 10 * p) + " " + (p - 1));
            }
        }
        for (int k = 0; k < 12; k++) {
            more.add("shake " + k + " " + (3 * k) % 12 + " 0 " + (12 - k) + " " + k % 2 + " " + 40 * k);
        }
        for (int r = 0; r < 40; r++) {
            more.add("report 3 " + r % 8 + " 0 " + (1 + r % 3));
        }
        return EMPTY.and(more.toArray(new String[0])).withSheets();
    }

    DragonJars made() {
        DragonJars x = new DragonJars();
        playOn(x);
        return x;
    }

    PlainModel madePlain() {
        PlainModel x = new PlainModel();
        playOn(x);
        return x;
    }

    private void playOn(Object x) {
        for (Call call : calls) {
            call.on(x);
        }
    }
}
