/** Counts answers that are not as due, and ends the test with code 1 if there was one. */
final class Check {
    static final int UNKNOWN = -900001, OUTSIDE = -900002, STATE = -900003, NONE = -900009;
    /** Numbers that are no copy, forme, place, .. of any kind. */
    static final int[] NOWHERE = {-1, Integer.MIN_VALUE, Integer.MAX_VALUE, NONE, UNKNOWN, 1000};

    private static final int MOST_PRINTED = 40;
    private static int wrong = 0;
    private static int asked = 0;

    private Check() {
    }

    static void due(String call, int got, int want) {
        asked++;
        if (got != want) {
            wrong++;
            if (wrong <= MOST_PRINTED) {
                System.out.println(call + " answered " + got + ", due is " + want);
            }
        }
    }

    static void holds(String what, boolean is) {
        due(what, is ? 1 : 0, 1);
    }

    static void finish() {
        System.out.println(asked + " answers, " + wrong + " wrong");
        System.exit(wrong == 0 && asked > 0 ? 0 : 1);
    }
}
