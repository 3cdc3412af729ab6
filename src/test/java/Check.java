/** Counts the answers that are not as due, for one test. */
final class Check {
    private static final int MOST_PRINTED = 40;
    private final String name;
    private int asked = 0;
    private int wrong = 0;

    Check(String name) {
        this.name = name;
    }

    void due(String call, long got, long want) {
        asked++;
        if (got != want) {
            wrong++;
            if (wrong <= MOST_PRINTED) {
                System.out.println(call + " answered " + got + ", due is " + want);
            }
        }
    }

    void dueTrue(String what, boolean is) {
        asked++;
        if (!is) {
            wrong++;
            if (wrong <= MOST_PRINTED) {
                System.out.println("not so: " + what);
            }
        }
    }

    boolean isClean() {
        return wrong == 0;
    }

    void finish() {
        System.out.println(name + ": " + asked + " answers, " + wrong + " not as due");
        if (wrong != 0) {
            System.exit(1);
        }
    }
}
