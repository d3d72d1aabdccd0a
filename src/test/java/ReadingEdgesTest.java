/** Promises 2 to 7: each sentence that names a boundary case, with a test of its own. */
public final class ReadingEdgesTest {
    private static final int UNKNOWN = Check.UNKNOWN, OUTSIDE = Check.OUTSIDE, NONE = Check.NONE;
    private static final String[] NINE = {
        "000000", "111111", "222222", "333333", "444444", "555555", "666666", "777777", "888888"};

    public static void main(String[] args) {
        readAtEachCorner();
        readEachLetter();
        readKeepsPlacesApart();
        readAllOfHalfTheFormes(0);
        readAllOfHalfTheFormes(3);
        readTakesAway();
        agreeWhereOneHasNone();
        agreeAtEachPlace();
        agreeWithEndsOfLetters();
        agreeOnlyInTheForme();
        agreeIsNotHandedOn();
        statesFromNoneToNine();
        statesOnlyOfThoseLookedAt();
        statesOfCopiesWithNothingInCommon();
        stateOfOneNotLookedAt();
        stateNumbersAsFirstCopiesCome();
        stateIsTheLeastOfLikeOnes();
        stateFewestAheadOfLeastNumbers();
        letterOfTheLastStateAndTheFirstThatIsNot();
        letterIsNoneWhereNoCopyHasOne();
        letterOfAnyOfItsCopies();
        letterZeroIsALetter();
        statesOfShrinkingFormes();
        slipsFromOneToNine();
        slipsOfNothing();
        slipsForMoreThanThereAre();
        slipsTakeReadingsNotCopies();
        slipsOfAnEmptiedCopy();
        slipsOfCopiesWithoutAReading();
        slipsDoNotHeedAhead();
        Check.finish();
    }

    private static void groups(String what, PressSheets x, int forme, int... want) {
        for (int c = 0; c < 9; c++) {
            Check.due(what + ": state of copy " + c, x.state(forme, c), c < want.length ? want[c] : NONE);
        }
    }

    // ---- promise 2

    private static void readAtEachCorner() {
        for (int c = 0; c <= 8; c += 8) {
            for (int f = 0; f <= 5; f += 5) {
                for (int p = 0; p <= 5; p += 5) {
                    PressSheets x = new PressSheets();
                    String at = "copy " + c + ", forme " + f + ", place " + p;
                    Check.due(at + ": none at first", x.read(c, f, p, 9), NONE);
                    Check.due(at + ": 9", x.read(c, f, p, 0), 9);
                    Check.due(at + ": 0", x.read(c, f, p, 0), 0);
                    Check.due(at + ": one reading", x.count(0), 1);
                    Check.due(at + ": looked at", x.state(f, c), 0);
                }
            }
        }
        PressSheets x = new PressSheets();
        Check.due("copy -1", x.read(-1, 0, 0, 0), UNKNOWN);
        Check.due("copy 9", x.read(9, 0, 0, 0), UNKNOWN);
        Check.due("forme -1", x.read(0, -1, 0, 0), UNKNOWN);
        Check.due("forme 6", x.read(0, 6, 0, 0), UNKNOWN);
        Check.due("place -1", x.read(0, 0, -1, 0), UNKNOWN);
        Check.due("place 6", x.read(0, 0, 6, 0), UNKNOWN);
        Check.due("letter -1", x.read(0, 0, 0, -1), OUTSIDE);
        Check.due("letter 10", x.read(0, 0, 0, 10), OUTSIDE);
        Check.due("no copy and no letter", x.read(9, 0, 0, 10), UNKNOWN);
        Check.due("no forme and no letter", x.read(0, 6, 0, 10), UNKNOWN);
        Check.due("no place and no letter", x.read(0, 0, 6, 10), UNKNOWN);
        Check.due("nothing was read", x.count(0), 0);
        Check.due("nobody was looked at", x.states(0), 0);
    }

    private static void readEachLetter() {
        PressSheets x = new PressSheets();
        int was = NONE;
        for (int k = 0; k <= 9; k++) {
            Check.due("ahead of letter " + k, x.read(4, 2, 3, k), was);
            was = k;
        }
        Check.due("NONE", x.read(4, 2, 3, NONE), 9);
        Check.due("NONE again", x.read(4, 2, 3, NONE), NONE);
    }

    private static void readKeepsPlacesApart() {
        PressSheets x = new PressSheets();
        for (int p = 0; p < 6; p++) {
            x.read(3, 4, p, p);
        }
        for (int p = 0; p < 6; p++) {
            Check.due("place " + p, x.read(3, 4, p, p), p);
            Check.due("another copy, place " + p, x.read(4, 4, p, NONE), NONE);
            Check.due("another forme, place " + p, x.read(3, 3, p, NONE), NONE);
        }
    }

    private static int letterAt(int c, int f, int p) {
        return (c * 5 + f * 3 + p) % 10;
    }

    private static void readAllOfHalfTheFormes(int from) {
        PressSheets x = new PressSheets();
        for (int f = from; f < from + 3; f++) {
            for (int c = 0; c < 9; c++) {
                for (int p = 0; p < 6; p++) {
                    x.read(c, f, p, letterAt(c, f, p));
                }
            }
        }
        Check.due("all of three formes", x.count(0), 162);
        for (int f = from; f < from + 3; f++) {
            for (int c = 0; c < 9; c++) {
                for (int p = 0; p < 6; p++) {
                    Check.due("of all", x.read(c, f, p, NONE), letterAt(c, f, p));
                }
            }
        }
        Check.due("none is left", x.count(0), 0);
    }

    private static void readTakesAway() {
        PressSheets x = Copies.of(5, "12", "22");
        Check.due("two states", x.states(5), 2);
        Check.due("taken away", x.read(1, 5, 0, NONE), 2);
        groups("alike now", x, 5, 0, 0);
        Check.due("the last one", x.read(1, 5, 1, NONE), 2);
        groups("not looked at any more", x, 5, 0);
        Check.due("what is left", x.count(0), 2);
    }

    // ---- promise 3

    private static void agreeWhereOneHasNone() {
        PressSheets x = Copies.of(0, "123456", "......", "1.....");
        Check.due("the other has none", x.agree(0, 0, 1), 1);
        Check.due("neither has one", x.agree(0, 7, 8), 1);
        Check.due("like at the one place", x.agree(0, 0, 2), 1);
        Check.due("with itself", x.agree(0, 0, 0), 1);
        Check.due("with itself, not looked at", x.agree(0, 8, 8), 1);
    }

    private static void agreeAtEachPlace() {
        for (int p = 0; p < 6; p++) {
            PressSheets x = Copies.of(1, "555555", "555555");
            Check.due("all alike", x.agree(1, 0, 1), 1);
            x.read(1, 1, p, 4);
            Check.due("unlike at place " + p, x.agree(1, 0, 1), 0);
            Check.due("the other way at place " + p, x.agree(1, 1, 0), 0);
            x.read(0, 1, p, NONE);
            Check.due("one taken away at place " + p, x.agree(1, 0, 1), 1);
        }
    }

    private static void agreeWithEndsOfLetters() {
        PressSheets x = Copies.of(2, "0", "9", "0", "1", "", "", "", "", "9");
        Check.due("0 and 9", x.agree(2, 0, 1), 0);
        Check.due("0 and 0", x.agree(2, 0, 2), 1);
        Check.due("0 and 1", x.agree(2, 2, 3), 0);
        Check.due("9 and 9, copies 1 and 8", x.agree(2, 1, 8), 1);
        Check.due("copies 0 and 8", x.agree(2, 0, 8), 0);
        Check.due("copy 9", x.agree(2, 0, 9), UNKNOWN);
        Check.due("copy -1", x.agree(2, -1, 0), UNKNOWN);
        Check.due("forme 6", x.agree(6, 0, 1), UNKNOWN);
        Check.due("forme -1", x.agree(-1, 0, 1), UNKNOWN);
    }

    private static void agreeOnlyInTheForme() {
        PressSheets x = Copies.of(0, "1", "2");
        x.read(0, 5, 0, 3);
        x.read(1, 5, 0, 3);
        Check.due("not in forme 0", x.agree(0, 0, 1), 0);
        Check.due("in forme 5", x.agree(5, 0, 1), 1);
        Check.due("in forme 3", x.agree(3, 0, 1), 1);
    }

    private static void agreeIsNotHandedOn() {
        PressSheets x = Copies.of(0, "1.", ".2", "3.");
        Check.due("0 and 1", x.agree(0, 0, 1), 1);
        Check.due("1 and 2", x.agree(0, 1, 2), 1);
        Check.due("0 and 2", x.agree(0, 0, 2), 0);
        Check.due("so there are two", x.states(0), 2);
    }

    // ---- promises 4 to 6

    private static void statesFromNoneToNine() {
        PressSheets x = new PressSheets();
        Check.due("none", x.states(5), 0);
        for (int c = 0; c < 9; c++) {
            x.read(c, 5, 5, c);
            Check.due("copies to " + c, x.states(5), c + 1);
            Check.due("the last copy's", x.state(5, c), c);
        }
        for (int c = 8; c >= 0; c--) {
            x.read(c, 5, 5, 9);
            Check.due("as many as are unlike", x.states(5), Math.max(1, c + 1));
        }
        groups("all alike", x, 5, 0, 0, 0, 0, 0, 0, 0, 0, 0);
        Check.due("forme 6", x.states(6), UNKNOWN);
        Check.due("forme -1", x.states(-1), UNKNOWN);
    }

    private static void statesOnlyOfThoseLookedAt() {
        PressSheets x = Copies.of(1, "", "1", "", "2");
        x.read(0, 2, 0, 5);
        Check.due("two copies", x.states(1), 2);
        groups("two copies", x, 1, NONE, 0, NONE, 1);
        groups("looked at in another forme", x, 2, 0);
        x.read(1, 1, 0, NONE);
        x.read(3, 1, 0, NONE);
        Check.due("none any more", x.states(1), 0);
        groups("none any more", x, 1);
    }

    private static void statesOfCopiesWithNothingInCommon() {
        PressSheets x = Copies.of(3, "1.....", ".2....", "..3...", "...4..", "....5.", ".....6");
        Check.due("one state", x.states(3), 1);
        for (int p = 0; p < 6; p++) {
            Check.due("a letter from each", x.letter(3, 0, p), p + 1);
        }
    }

    private static void stateOfOneNotLookedAt() {
        PressSheets x = Copies.of(0, "1");
        for (int c = 1; c < 9; c++) {
            Check.due("copy " + c, x.state(0, c), NONE);
        }
        Check.due("copy 9", x.state(0, 9), UNKNOWN);
        Check.due("copy -1", x.state(0, -1), UNKNOWN);
        Check.due("forme 6", x.state(6, 0), UNKNOWN);
        Check.due("forme -1", x.state(-1, 0), UNKNOWN);
    }

    private static void stateNumbersAsFirstCopiesCome() {
        PressSheets x = Copies.of(4, "", "", "9", "5", "9", "1", "5", "", "0");
        groups("not by letters", x, 4, NONE, NONE, 0, 1, 0, 2, 1, NONE, 3);
        x.read(0, 4, 0, 1);
        groups("one that comes ahead", x, 4, 0, NONE, 1, 2, 1, 0, 2, NONE, 3);
    }

    private static void stateIsTheLeastOfLikeOnes() {
        // Copy 2 agrees with both; copy 8 too, and with copy 2 not.
        PressSheets x = Copies.of(0, "1.", "2.", ".3", "", "", "", "", "", ".4");
        groups("the least for the lesser copy", x, 0, 0, 1, 0, NONE, NONE, NONE, NONE, NONE, 1);
        x.read(8, 0, 1, 3);
        groups("both in the least", x, 0, 0, 1, 0, NONE, NONE, NONE, NONE, NONE, 0);
    }

    private static void stateFewestAheadOfLeastNumbers() {
        // Copy 1 could be of group 0, but then three groups would be needed.
        PressSheets x = Copies.of(0, "1..", "..1", "1.2", "2.1");
        Check.due("fewest", x.states(0), 2);
        groups("fewest", x, 0, 0, 1, 0, 1);
        x.read(3, 0, 2, NONE);
        groups("nothing in its way now", x, 0, 0, 1, 0, 1);
        x.read(2, 0, 2, NONE);
        groups("copy 2 does not mind copy 1 now", x, 0, 0, 0, 0, 1);
    }

    private static void letterOfTheLastStateAndTheFirstThatIsNot() {
        PressSheets x = Copies.of(5, NINE);
        Check.due("state 8, place 5", x.letter(5, 8, 5), 8);
        Check.due("state 0, place 0", x.letter(5, 0, 0), 0);
        Check.due("state 9", x.letter(5, 9, 0), UNKNOWN);
        Check.due("state -1", x.letter(5, -1, 0), UNKNOWN);
        Check.due("place 6", x.letter(5, 0, 6), UNKNOWN);
        Check.due("place -1", x.letter(5, 0, -1), UNKNOWN);
        Check.due("forme 6", x.letter(6, 0, 0), UNKNOWN);
        Check.due("forme -1", x.letter(-1, 0, 0), UNKNOWN);
        Check.due("a forme without states", x.letter(4, 0, 0), UNKNOWN);
        x = Copies.of(0, "1", "2");
        Check.due("state 1 of two", x.letter(0, 1, 0), 2);
        Check.due("state 2 of two", x.letter(0, 2, 0), UNKNOWN);
    }

    private static void letterIsNoneWhereNoCopyHasOne() {
        PressSheets x = Copies.of(0, "1.....", ".....2");
        Check.due("of the first copy", x.letter(0, 0, 0), 1);
        for (int p = 1; p < 5; p++) {
            Check.due("place " + p, x.letter(0, 0, p), NONE);
        }
        Check.due("of the second copy", x.letter(0, 0, 5), 2);
        x.read(1, 0, 5, NONE);
        Check.due("taken away", x.letter(0, 0, 5), NONE);
    }

    private static void letterOfAnyOfItsCopies() {
        PressSheets x = Copies.of(0, "1", "2", "1", "", "", "", "", "", "1.7");
        Check.due("of copy 8", x.letter(0, 0, 2), 7);
        Check.due("not of another state", x.letter(0, 1, 2), NONE);
    }

    private static void letterZeroIsALetter() {
        PressSheets x = Copies.of(0, "0.", "00");
        Check.due("0", x.letter(0, 0, 0), 0);
        Check.due("0 of copy 1", x.letter(0, 0, 1), 0);
        Check.due("two copies, one state", x.states(0), 1);
        x.read(1, 0, 0, 1);
        Check.due("0 and 1", x.states(0), 2);
    }

    private static void statesOfShrinkingFormes() {
        PressSheets x = Copies.of(0, "1", "2", "3");
        Check.due("state 2", x.letter(0, 2, 0), 3);
        x.read(1, 0, 0, 1);
        Check.due("no state 2 any more", x.letter(0, 2, 0), UNKNOWN);
        Check.due("state 1 is copy 2's now", x.letter(0, 1, 0), 3);
        Check.due("a refused reading", x.read(1, 0, 0, 10), OUTSIDE);
        Check.due("has changed nothing", x.letter(0, 1, 0), 3);
    }

    // ---- promise 7

    private static void slipsFromOneToNine() {
        PressSheets x = Copies.of(5, NINE);
        for (int n = 1; n <= 9; n++) {
            Check.due("all but " + n + " copies", x.slips(5, n), 6 * (9 - n));
        }
        Check.due("0", x.slips(5, 0), OUTSIDE);
        Check.due("10", x.slips(5, 10), OUTSIDE);
        Check.due("-1", x.slips(5, -1), OUTSIDE);
        Check.due("NONE", x.slips(5, NONE), OUTSIDE);
        Check.due("forme 6", x.slips(6, 1), UNKNOWN);
        Check.due("forme -1", x.slips(-1, 1), UNKNOWN);
        Check.due("no forme and no number", x.slips(6, 10), UNKNOWN);
        Check.due("nothing was taken away", x.count(0), 54);
        Check.due("nothing was taken away", x.states(5), 9);
    }

    private static void slipsOfNothing() {
        PressSheets x = Copies.of(0, "1", "2");
        for (int n = 1; n <= 9; n++) {
            Check.due("another forme, " + n, x.slips(1, n), 0);
        }
        x.read(0, 0, 0, NONE);
        Check.due("one copy", x.slips(0, 1), 0);
    }

    private static void slipsForMoreThanThereAre() {
        PressSheets x = Copies.of(0, "1", "2", "3");
        Check.due("one fewer", x.slips(0, 2), 1);
        Check.due("as many", x.slips(0, 3), 0);
        Check.due("one more", x.slips(0, 4), 0);
        Check.due("nine", x.slips(0, 9), 0);
    }

    private static void slipsTakeReadingsNotCopies() {
        // One reading of copy 1 goes, its others stay.
        PressSheets x = Copies.of(2, "111111", "111112", "222222");
        Check.due("two", x.slips(2, 2), 1);
        Check.due("one: of each place the fewer", x.slips(2, 1), 6);
        // Like readings against one another: it is the same which of two goes.
        x = Copies.of(2, "12", "21");
        Check.due("one from each place", x.slips(2, 1), 2);
    }

    /** Those LOOKED AT now are put into groups, also if a slip takes their last reading. */
    private static void slipsOfAnEmptiedCopy() {
        PressSheets x = Copies.of(0, "1", "1", "2");
        Check.due("copy 2 has nothing left", x.slips(0, 1), 1);
        x.read(2, 0, 0, NONE);
        Check.due("and is not looked at", x.slips(0, 1), 0);
    }

    private static void slipsOfCopiesWithoutAReading() {
        // A copy that agrees with all is in no way.
        PressSheets x = Copies.of(0, "1.", "2.", ".3");
        Check.due("one", x.slips(0, 1), 1);
        Check.due("two", x.slips(0, 2), 0);
    }

    private static void slipsDoNotHeedAhead() {
        PressSheets x = Copies.of(0, "1", "2");
        x.ahead(0, 0, 1, true);
        x.ahead(0, 1, 0, true);
        Check.due("one", x.slips(0, 1), 1);
        Check.due("two", x.slips(0, 2), 0);
        Check.due("though there is no order", x.orders(0), 0);
    }
}
