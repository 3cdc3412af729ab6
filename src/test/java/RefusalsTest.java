/**
 * Each refusal and each FAULT of each promise, in the order in which the document tells them, with the
 * least and the greatest number that is taken and those beyond; none of these calls changes anything.
 */
public final class RefusalsTest {
    private static final int UNKNOWN = DragonJars.UNKNOWN, STATE = DragonJars.STATE, FULL = DragonJars.FULL;
    private static final int NULL = 1, CAST = 2, INDEX = 3, SIZE = 4;
    private static final int LOWEST = Integer.MIN_VALUE, HIGHEST = Integer.MAX_VALUE;
    private static final Check CHECK = new Check("RefusalsTest");

    public static void main(String[] args) {
        land();
        pillarsOfCells();
        shakes();
        book();
        guesses();
        next();
        row();
        sheets();
        parts();
        emptyLand();
        CHECK.finish();
    }

    private static Flaws flaws(String good) {
        return new Flaws(CHECK, Scene.PLAIN, good);
    }

    /** Promises 2, 3, 5 to 11. */
    private static void land() {
        flaws("house 1 4 5 6 7").outside(0, 0, 2).outside(1, 0, 11).outside(2, 0, 11)
            .outside(3, 1, 240).outside(4, 1, 240).allTold().alsoAheadOf(FULL, Scene.FULL);
        flaws("pillar 2 9 4").unknown(0, 3).outside(1, 1, 240).outside(2, -1, 7)
            .allTold();
        flaws("pillar 2 9 4").unknown(0, 8).outside(1, 1, 240).outside(2, -1, 7)
            .alsoAheadOf(FULL, Scene.FULL);
        flaws("clock 1 3 4").unknown(0, 3).outside(1, -50, 50).outside(2, 0, 20).allTold();
        flaws("wind 1 0").unknown(0, 3).allTold();
        flaws("set 0").unknown(0, 3).allTold();
        flaws("about 0 0").unknown(0, 3).outside(1, 0, 11).allTold();
        flaws("stopped 0").unknown(0, 3).answering(DragonJars.LOST).allTold();
        flaws("fallen 0 1 0").unknown(0, 3).unknown(1, 2).outside(2, 0, 2).allTold();
        flaws("would 1 2 3 1 5 0 0").unknown(0, 3).outside(1, 0, 11).outside(2, 0, 11).outside(3, 0, 3)
            .outside(4, 1, 12).outside(5, 0, 1).outside(6, 0, 2).allTold();
    }

    /**
     * Promise 4: two PILLARS come by cells 0 to 3; 4 has no WIDTH, 7 no LEAN. NULL stands ahead of CAST
     * here and below: a SHEET that has nothing is never a CAST.
     */
    private static void pillarsOfCells() {
        flaws("pillars 2 0 0 0 2").unknown(0, 3).unknown(1, 4).outsideAre(2, -1, 3, LOWEST, HIGHEST)
            .faults(NULL, 1, 3).faults(CAST, 2, 1, 2).faults(SIZE, 4, -1, LOWEST)
            .faults(INDEX, 3, 37, 40, -1, LOWEST, HIGHEST).outsideAre(3, 4, 2, 6).allTold();
        flaws("pillars 2 1 1 36 0").faults(NULL, 1, 3).faults(CAST, 2, 0, 2).faults(INDEX, 4, 3, 20, HIGHEST).allTold();
        flaws("pillars 2 2 2 0 2").faults(CAST, 2, 0, 1).faults(INDEX, 4, 21, 1 << 30, HIGHEST).allTold();
        flaws("pillars 2 0 0 0 2").unknown(0, 8).unknown(1, 4)
            .outsideAre(2, -1, 3).faults(NULL, 1, 3).faults(CAST, 2, 1, 2).faults(SIZE, 4, -1)
            .faults(INDEX, 3, 37, -1).alsoAheadOf(FULL, Scene.FULL);
    }

    /** Promises 12 and 28. */
    private static void shakes() {
        flaws("shake 1 2 3 4 0 5").outside(0, 0, 11).outside(1, 0, 11).outside(2, 0, 3).outside(3, 1, 12)
            .outside(4, 0, 1).outside(5, 0, 1000000).allTold().alsoAheadOf(FULL, Scene.FULL);
        flaws("was 1 2 4 5").outside(0, 0, 11).outside(1, 0, 11).outside(2, 1, 12).outside(3, 0, 1000000)
            .allTold().alsoAheadOf(FULL, Scene.FULL);
    }

    /** Promises 13 to 17. */
    private static void book() {
        int[][] bounds = {{-1, 7}, {-2, 8}, {-1000, 1001000}, {1, 240}, {1, 240}};
        for (int kind = 0; kind < 5; kind++) {
            int least = bounds[kind][0];
            int greatest = bounds[kind][1];
            Flaws of = flaws("report " + kind + " 0 1 1").unknown(1, 3).outsideAre(0, -1, 5, LOWEST, HIGHEST);
            (kind == 1 ? of.unknown(2, 2) : of).outside(3, least, greatest).allTold();
            Flaws full = flaws("report " + kind + " 0 1 1").unknown(1, 8).outsideAre(0, -1, 5);
            (kind == 1 ? full.unknown(2, 6) : full).outside(3, least, greatest).alsoAheadOf(FULL, Scene.FULL);
        }
        flaws("look 1").unknown(0, 3).allTold();
        flaws("look 1").unknown(0, 8).alsoAheadOf(FULL, Scene.FULL);
        flaws("turn 3 0").unknown(0, 9).allTold();
        flaws("told 3 0").unknown(0, 9).outside(1, 0, 4).answering(-99).allTold();
    }

    /** Promises 18 to 25. */
    private static void guesses() {
        int fits = Scene.PLAIN.made().fits();
        flaws("fit 0 0").unknown(0, fits).outside(1, 0, 4).allTold();
        flaws("fit " + (fits - 1) + " 3").unknown(0, fits).allTold();
        flaws("fit 0 0").unknown(0, 0).alsoAheadOf(UNKNOWN, Scene.NONE_FITS);
        CHECK.due("none fits, and what is outside", Scene.NONE_FITS.made().fit(0, 5), UNKNOWN);
        flaws("span 0 0").outside(0, 0, 5).outside(1, 0, 1).allTold().alsoAheadOf(STATE, Scene.NONE_FITS);
        flaws("way 2").unknown(0, 3).allTold().alsoAheadOf(STATE, Scene.NONE_FITS);
        flaws("nearest 0").outside(0, 0, 6).allTold();
        flaws("wrong 0").unknown(0, 9).allTold();
        flaws("cart 0").unknown(0, 9).allTold();
        Scene off = Scene.PLAIN.and("turn 0 0");
        flaws("cart 0").unknown(0, 9).alsoAheadOf(STATE, off);
        Scene none = Scene.PLAIN.and("forget", "report 0 0 0 -1");
        flaws("cart 0").unknown(0, 1).alsoAheadOf(STATE, none);
        for (int kind = 1; kind < 5; kind++) {
            Scene other = Scene.PLAIN.and("forget", "report " + kind + " 0 0 3");
            flaws("cart 0").unknown(0, 1).alsoAheadOf(STATE, other);
        }
    }

    /** Promises 26 and 27: WIDTHS are cells 20 to 24; 25 is none. */
    private static void next() {
        flaws("next 10 0").outside(0, 1, 240).outside(1, 0, 2).allTold().alsoAheadOf(STATE, Scene.NONE_FITS);
        flaws("which 2 2 0 0 20 5 0").unknown(0, 3).unknown(2, 4).outsideAre(3, -1, 3, LOWEST, HIGHEST)
            .outside(1, 1, 3).outside(6, 0, 1)
            .faults(NULL, 2, 3).faults(CAST, 3, 1, 2).faults(SIZE, 5, -1, LOWEST)
            .faults(INDEX, 4, 36, -1, 40, LOWEST, HIGHEST).outsideAre(4, 21, 25)
            .allTold().alsoAheadOf(STATE, Scene.NONE_FITS);
        flaws("which 2 3 1 1 20 3 1").unknown(0, 3).faults(CAST, 3, 0, 2)
            .faults(INDEX, 5, 21, HIGHEST).allTold();
        flaws("which 2 3 1 1 20 3 1").unknown(0, 3).outsideAre(5, 2, 0, 9, 20).allTold()
            .alsoAheadOf(STATE, Scene.NONE_FITS);
        flaws("which 2 2 2 2 20 2 1").faults(CAST, 3, 0, 1).outsideAre(5, 1, 9).allTold();
        flaws("which 2 1 2 2 20 1 1").outsideAre(5, 0, 9).allTold();
    }

    /** Promises 29 and 30. */
    private static void row() {
        flaws("row 1 0").unknown(0, 2).outsideAre(1, -1, 8, LOWEST, HIGHEST).allTold();
        flaws("row 1 7").unknown(0, 2).allTold();
        flaws("families 0").outside(0, 0, 1).allTold();
    }

    /** Promises 31 to 34. */
    private static void sheets() {
        flaws("sheet 3 1 5").unknown(0, 4).outside(1, 0, 2).outsideAre(2, 41, HIGHEST)
            .faults(SIZE, 2, -1, LOWEST).allTold();
        flaws("sheet 0 1 0").unknown(0, 4).allTold();
        flaws("sheet 0 1 40").unknown(0, 4).allTold();
        flaws("lose 0").unknown(0, 4).allTold();
        flaws("lose 3").unknown(0, 4).allTold();
        flaws("put 0 0 77").unknown(0, 4).faults(NULL, 0, 3).faults(INDEX, 1, -1, 40, LOWEST, HIGHEST).allTold();
        flaws("put 0 39 77").unknown(0, 4).allTold();
        flaws("at 0 0 0").unknown(0, 4).outsideAre(2, -1, 3, LOWEST, HIGHEST).faults(NULL, 0, 3)
            .faults(CAST, 2, 1, 2).faults(INDEX, 1, -1, 40, LOWEST, HIGHEST).answering(DragonJars.LOST).allTold();
        flaws("at 1 39 1").faults(CAST, 2, 0, 2).answering(DragonJars.LOST).allTold();
        flaws("at 2 0 2").faults(CAST, 2, 0, 1).answering(DragonJars.LOST).allTold();
    }

    /** Promises 35 to 37 and 40. */
    private static void parts() {
        flaws("tell 1").unknown(0, 3).allTold();
        flaws("guard 1").unknown(0, 3).allTold();
        flaws("as 0 0").unknown(0, 3).outsideAre(1, -1, 3, LOWEST, HIGHEST).faults(CAST, 1, 1, 2).allTold();
        flaws("as 1 1").unknown(0, 3).outsideAre(1, -1, 3).faults(CAST, 1, 2).allTold();
        flaws("as 2 2").unknown(0, 3).outside(1, 0, 2).allTold();
        flaws("many 0").outside(0, 0, 5).allTold();
    }

    /** Of an object that is new nothing is known, whatever else is wrong with the call. */
    private static void emptyLand() {
        String[] calls = {
            "pillar 0 0 9", "pillars 0 0 9 9 -1", "clock 0 99 99", "wind 0 1", "set 0", "about 0 99",
            "fallen 0 0 9", "would 0 99 99 9 99 9 9", "report 9 0 9 9999", "look 0", "turn 0 1",
            "way 0", "wrong 0", "cart 0", "which 0 9 0 9 9 -1 9", "row 0 99", "tell 0", "guard 0", "as 0 9",
        };
        for (String text : calls) {
            Call call = Call.of(text);
            CHECK.due("of nothing: " + call, call.on(Scene.EMPTY.made()), UNKNOWN);
            String other = Whole.behind(Scene.EMPTY, call).firstOther(Scene.EMPTY.whole());
            CHECK.dueTrue(call + " changes nothing: " + other, other.isEmpty());
        }
    }
}
