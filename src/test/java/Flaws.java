import java.util.ArrayList;
import java.util.List;

/**
 * What may be wrong with a call, in the order in which the document tells it: each alone, with all its
 * numbers, and each two together, of which the first decides. Nothing changes by such a call, but
 * fault(), if it names FAULTS.
 */
final class Flaws {
    private record Flaw(long answer, int fault, int place, int... values) { }

    private static final int SIZE = 4;
    private static final List<String> NAME_FAULTS = List.of("pillars", "which", "sheet", "put", "at", "as");

    private final Check check;
    private final Scene scene;
    private final Call good;
    private final List<Flaw> flaws = new ArrayList<>();

    /** A call that is taken, as it is told here. */
    Flaws(Check check, Scene scene, String good) {
        this.check = check;
        this.scene = scene;
        this.good = Call.of(good);
        isTaken(this.good);
    }

    /** There is none of these at a place of the call: below 0, and from so many on. */
    Flaws unknown(int place, int many) {
        flaws.add(new Flaw(DragonJars.UNKNOWN, 0, place, -1, many, Integer.MIN_VALUE, Integer.MAX_VALUE, 999));
        return this;
    }

    /** The least and the greatest are taken there, those beyond them are OUTSIDE. */
    Flaws outside(int place, int least, int greatest) {
        isTaken(good.but(place, least));
        isTaken(good.but(place, greatest));
        return outsideAre(place, least - 1, greatest + 1, Integer.MIN_VALUE, Integer.MAX_VALUE);
    }

    Flaws outsideAre(int place, int... values) {
        flaws.add(new Flaw(DragonJars.OUTSIDE, 0, place, values));
        return this;
    }

    Flaws faults(int fault, int place, int... values) {
        flaws.add(new Flaw(-10 - fault, fault, place, values));
        return this;
    }

    /** Another answer for all of these: LOST, -99. */
    Flaws answering(long answer) {
        for (int i = 0; i < flaws.size(); i++) {
            Flaw flaw = flaws.get(i);
            flaws.set(i, new Flaw(answer, flaw.fault, flaw.place, flaw.values));
        }
        return this;
    }

    /** Each alone, each two: on the scene. */
    Flaws allTold() {
        tryOn(scene);
        return this;
    }

    /** The same where even the good call is refused, as STATE or FULL, which are told last. */
    Flaws alsoAheadOf(long answer, Scene spent) {
        tryOne(spent, new Flaw(answer, 0, 0), good);
        tryOn(spent);
        return this;
    }

    private void tryOn(Scene on) {
        for (int i = 0; i < flaws.size(); i++) {
            Flaw first = flaws.get(i);
            for (int value : first.values) {
                tryOne(on, first, good.but(first.place, value));
            }
            Call flawed = good.but(first.place, first.values[0]);
            for (int j = i + 1; j < flaws.size(); j++) {
                Flaw second = flaws.get(j);
                if (second.place != first.place) {
                    tryOne(on, first, flawed.but(second.place, second.values[0]));
                }
            }
        }
    }

    private void tryOne(Scene on, Flaw due, Call call) {
        // A fault from before that is not the one that is due: else nothing could be seen of it.
        Call before = Call.of(due.fault == SIZE ? "put 3 0 0" : "sheet 0 0 -1");
        DragonJars x = on.made();
        before.on(x);
        int faultBefore = x.fault();
        check.due(call.toString(), call.on(x), due.answer);
        boolean namesFaults = NAME_FAULTS.contains(call.name);
        check.due(call + ", then fault()", x.fault(), namesFaults ? due.fault : faultBefore);
        String other = Whole.behind(on, call).firstOther(on.whole());
        check.dueTrue(call + " changes nothing: " + other, other.isEmpty());
    }

    private void isTaken(Call call) {
        long answer = call.on(scene.made());
        check.due(call.toString(), answer, call.on(scene.madePlain()));
        boolean refused = answer >= DragonJars.FULL && answer < 0 || answer <= -11 && answer >= -14;
        check.dueTrue(call + " is taken: " + answer, !refused && answer != -99 && answer != DragonJars.LOST);
    }
}
