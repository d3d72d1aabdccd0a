import java.util.Random;

/** Promises 2 to 7, and of promises 1 and 38 what is of readings. */
public final class ReadingsTest {
    private static final int UNKNOWN = Check.UNKNOWN, OUTSIDE = Check.OUTSIDE, NONE = Check.NONE;

    public static void main(String[] args) {
        newObject();
        readAnswersWhatWas();
        readRefuses();
        agreeLooksAtCommonPlaces();
        statesAreFewest();
        statesOfLikeOnesTakeLeastNumbers();
        stateAndLetter();
        statesFollowReadings();
        slipsAreFewest();
        slipsAgainstTakingReadingsAway();
        refusals();
        nineCopies();
        Check.finish();
    }

    private static void groups(String what, PressSheets x, int forme, int... want) {
        for (int c = 0; c < want.length; c++) {
            Check.due(what + ": state(" + forme + ", " + c + ")", x.state(forme, c), want[c]);
        }
    }

    private static void newObject() {
        PressSheets x = new PressSheets();
        for (int f = 0; f < 6; f++) {
            Check.due("new states", x.states(f), 0);
            Check.due("new agree", x.agree(f, 0, 8), 1);
            Check.due("new slips", x.slips(f, 1), 0);
            Check.due("new letter", x.letter(f, 0, 0), UNKNOWN);
            groups("new", x, f, NONE, NONE, NONE, NONE, NONE, NONE, NONE, NONE, NONE);
        }
        Check.due("new count(0)", x.count(0), 0);
    }

    private static void readAnswersWhatWas() {
        PressSheets x = new PressSheets();
        Check.due("first", x.read(8, 5, 5, 9), NONE);
        Check.due("again", x.read(8, 5, 5, 0), 9);
        Check.due("taken away", x.read(8, 5, 5, NONE), 0);
        Check.due("none was", x.read(8, 5, 5, NONE), NONE);
        Check.due("count of none", x.count(0), 0);
        x.read(0, 0, 0, 1);
        x.read(0, 0, 0, 2);
        x.read(0, 1, 0, 1);
        Check.due("count of two", x.count(0), 2);
    }

    private static void readRefuses() {
        PressSheets x = Copies.of(0, "1", "2");
        for (int bad : Check.NOWHERE) {
            Check.due("copy", x.read(bad, 0, 0, 3), UNKNOWN);
            Check.due("forme", x.read(0, bad, 0, 3), UNKNOWN);
            Check.due("place", x.read(0, 0, bad, 3), UNKNOWN);
            Check.due("copy ahead of letter", x.read(bad, 0, 0, 77), UNKNOWN);
            if (bad != NONE) {
                Check.due("letter", x.read(0, 0, 0, bad), OUTSIDE);
            }
        }
        Check.due("copy 9", x.read(9, 0, 0, 3), UNKNOWN);
        Check.due("forme 6", x.read(0, 6, 0, 3), UNKNOWN);
        Check.due("place 6", x.read(0, 0, 6, 3), UNKNOWN);
        Check.due("letter 10", x.read(0, 0, 0, 10), OUTSIDE);
        Check.due("nothing changed", x.count(0), 2);
        Check.due("what stood", x.read(0, 0, 0, NONE), 1);
    }

    private static void agreeLooksAtCommonPlaces() {
        PressSheets x = Copies.of(2, "12....", "1.3...", ".4....");
        Check.due("alike", x.agree(2, 0, 1), 1);
        Check.due("unlike", x.agree(2, 0, 2), 0);
        Check.due("unlike the other way", x.agree(2, 2, 0), 0);
        Check.due("nothing in common", x.agree(2, 1, 2), 1);
        Check.due("with itself", x.agree(2, 0, 0), 1);
        Check.due("not looked at", x.agree(2, 0, 7), 1);
        Check.due("another forme", x.agree(3, 0, 2), 1);
    }

    private static void statesAreFewest() {
        // A copy that agrees with two that do not is in one of them, the lesser.
        PressSheets x = Copies.of(1, "1", "2", ".5");
        Check.due("three copies", x.states(1), 2);
        groups("three copies", x, 1, 0, 1, 0, NONE);
        // To put each copy into the first group that it agrees with would make three.
        x = Copies.of(1, "1..", ".1.", "1.3", ".14", "2.4", ".23");
        Check.due("greedy is not fewest", x.states(1), 2);
        groups("greedy is not fewest", x, 1, 0, 1, 0, 1, 1, 0, NONE);
    }

    private static void statesOfLikeOnesTakeLeastNumbers() {
        // 0 and 1 agree, but together they leave 2 and 3 no place in two groups.
        PressSheets x = Copies.of(0, "1...", "..1.", "1.2.", "2.1.");
        Check.due("two", x.states(0), 2);
        groups("not the greedy one", x, 0, 0, 1, 0, 1);
        x = Copies.of(0, "1.", "2.", ".1", ".2");
        Check.due("two and two", x.states(0), 2);
        groups("two and two", x, 0, 0, 1, 0, 1);
    }

    private static void stateAndLetter() {
        PressSheets x = Copies.of(4, "1.....", ".2....", "3..4..");
        Check.due("states", x.states(4), 2);
        groups("joined", x, 4, 0, 0, 1, NONE);
        Check.due("letter of copy 0", x.letter(4, 0, 0), 1);
        Check.due("letter of copy 1", x.letter(4, 0, 1), 2);
        Check.due("none has one", x.letter(4, 0, 2), NONE);
        Check.due("letter of state 1", x.letter(4, 1, 3), 4);
        Check.due("no state 2", x.letter(4, 2, 0), UNKNOWN);
        Check.due("other formes stay", x.states(0), 0);
    }

    private static void statesFollowReadings() {
        PressSheets x = Copies.of(0, "1", "2", "3");
        Check.due("three", x.states(0), 3);
        x.read(1, 0, 0, 1);
        groups("1 has joined 0", x, 0, 0, 0, 1);
        x.read(0, 0, 0, NONE);
        Check.due("0 is gone", x.states(0), 2);
        groups("0 is gone", x, 0, NONE, 0, 1);
        Check.due("refused", x.read(0, 0, 0, 10), OUTSIDE);
        groups("nothing changed", x, 0, NONE, 0, 1);
    }

    private static void slipsAreFewest() {
        PressSheets x = Copies.of(3, "11", "11", "12", "22", "3.");
        Check.due("states", x.states(3), 4);
        Check.due("one group", x.slips(3, 1), 4);
        Check.due("two groups", x.slips(3, 2), 2);
        Check.due("three groups", x.slips(3, 3), 1);
        Check.due("four groups", x.slips(3, 4), 0);
        Check.due("nine groups", x.slips(3, 9), 0);
        Check.due("slips change nothing", x.states(3), 4);
        Check.due("no copies", x.slips(0, 1), 0);
    }

    /** The words themselves: readings are taken away, and the states counted. */
    private static void slipsAgainstTakingReadingsAway() {
        Random dice = new Random(7);
        for (int run = 0; run < 60; run++) {
            int[][] told = new int[9][];
            PressSheets x = new PressSheets();
            for (int i = 0; i < 9; i++) {
                told[i] = new int[] {dice.nextInt(6), dice.nextInt(3), dice.nextInt(3)};
                x.read(told[i][0], 0, told[i][1], told[i][2]);
            }
            int[] want = fewestTaken(told);
            for (int n = 1; n <= 9; n++) {
                Check.due("run " + run + ": slips(0, " + n + ")", x.slips(0, n), want[n]);
            }
        }
    }

    private static int[] fewestTaken(int[][] told) {
        int[][] letters = new int[6][3];
        for (int[] row : letters) {
            java.util.Arrays.fill(row, NONE);
        }
        for (int[] t : told) {
            letters[t[0]][t[1]] = t[2];
        }
        int[] best = new int[10];
        java.util.Arrays.fill(best, Integer.MAX_VALUE);
        for (int set = 0; set < 1 << 18; set++) {
            PressSheets y = takeAway(letters, set);
            if (y != null) {
                for (int n = y.states(0); n <= 9; n++) {
                    best[n] = Math.min(best[n], Integer.bitCount(set));
                }
            }
        }
        best[1] = Math.min(best[1], best[0]);
        for (int n = 2; n <= 9; n++) {
            best[n] = Math.min(best[n], best[n - 1]);
        }
        return best;
    }

    /** Null, if the set names a reading that is not there. */
    private static PressSheets takeAway(int[][] letters, int set) {
        for (int i = 0; i < 18; i++) {
            if ((set >> i & 1) != 0 && letters[i / 3][i % 3] == NONE) {
                return null;
            }
        }
        PressSheets y = new PressSheets();
        for (int i = 0; i < 18; i++) {
            if ((set >> i & 1) == 0) {
                y.read(i / 3, 0, i % 3, letters[i / 3][i % 3]);
            }
        }
        return y;
    }

    private static void refusals() {
        PressSheets x = Copies.of(0, "1", "2");
        for (int bad : Check.NOWHERE) {
            Check.due("agree forme", x.agree(bad, 0, 1), UNKNOWN);
            Check.due("agree a", x.agree(0, bad, 1), UNKNOWN);
            Check.due("agree b", x.agree(0, 0, bad), UNKNOWN);
            Check.due("states", x.states(bad), UNKNOWN);
            Check.due("state forme", x.state(bad, 0), UNKNOWN);
            Check.due("state copy", x.state(0, bad), UNKNOWN);
            Check.due("letter forme", x.letter(bad, 0, 0), UNKNOWN);
            Check.due("letter state", x.letter(0, bad, 0), UNKNOWN);
            Check.due("letter place", x.letter(0, 0, bad), UNKNOWN);
            Check.due("slips forme", x.slips(bad, 1), UNKNOWN);
            Check.due("slips n", x.slips(0, bad), OUTSIDE);
            Check.due("slips both", x.slips(bad, bad), UNKNOWN);
        }
        Check.due("slips 0", x.slips(0, 0), OUTSIDE);
        Check.due("slips 10", x.slips(0, 10), OUTSIDE);
        Check.due("forme 6", x.states(6), UNKNOWN);
        Check.due("copy 9", x.state(0, 9), UNKNOWN);
        Check.due("place 6", x.letter(0, 0, 6), UNKNOWN);
        Check.due("state 2", x.letter(0, 2, 0), UNKNOWN);
    }

    private static void nineCopies() {
        PressSheets x = Copies.of(5, "000000", "111111", "222222", "333333", "444444", "555555", "666666", "777777", "888888");
        Check.due("nine states", x.states(5), 9);
        groups("nine", x, 5, 0, 1, 2, 3, 4, 5, 6, 7, 8);
        Check.due("count", x.count(0), 54);
        for (int n = 1; n <= 9; n++) {
            Check.due("slips of nine, " + n, x.slips(5, n), 6 * (9 - n));
        }
        Check.due("letter", x.letter(5, 8, 5), 8);
    }
}
