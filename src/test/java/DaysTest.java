/** Promises 14 to 22, and of promises 1 and 38 what is of type and days. */
public final class DaysTest {
    private static final int UNKNOWN = Check.UNKNOWN, OUTSIDE = Check.OUTSIDE, STATE = Check.STATE, NONE = Check.NONE;

    public static void main(String[] args) {
        newObject();
        pieceAnswersHowItWas();
        pieceRefuses();
        shareAndMust();
        rings();
        pressesAnswerWhatTheyWere();
        plansKeepShares();
        plansKeepPresses();
        dayOfTheFirst();
        besideCountsPlans();
        fewestDays();
        aChainOfSix();
        plansFollowWhatIsTold();
        refusals();
        Check.finish();
    }

    private static void newObject() {
        PressSheets x = new PressSheets();
        for (int a = 0; a < 6; a++) {
            Check.due("new share", x.share(a, a), 0);
            Check.due("new must", x.must(a, 5 - a), 0);
            Check.due("new day", x.day(1, a), NONE);
            Check.due("new beside", x.beside(1, a, a), STATE);
        }
        Check.due("new ring", x.ring(), 0);
        Check.due("nothing to lay", x.plans(1), 1);
        Check.due("nothing to lay", x.plans(6), 1);
        Check.due("new fewest", x.fewest(), 1);
        Check.due("new presses", x.presses(2), 2);
        Check.due("new count(2)", x.count(2), 0);
    }

    private static void pieceAnswersHowItWas() {
        PressSheets x = new PressSheets();
        Check.due("not", x.piece(15, 5, 0), NONE);
        Check.due("whole", x.piece(15, 5, 1), 0);
        Check.due("hurt", x.piece(15, 5, NONE), 1);
        Check.due("not", x.piece(15, 5, NONE), NONE);
        x.piece(0, 0, 0);
        x.piece(1, 0, 1);
        x.piece(1, 3, 1);
        Check.due("formes told of", x.count(2), 2);
        x.piece(1, 0, NONE);
        Check.due("still by piece 0", x.count(2), 2);
        x.piece(0, 0, NONE);
        Check.due("one is left", x.count(2), 1);
    }

    private static void pieceRefuses() {
        PressSheets x = new PressSheets();
        x.piece(0, 0, 0);
        for (int bad : Check.NOWHERE) {
            Check.due("piece", x.piece(bad, 0, 1), UNKNOWN);
            Check.due("forme", x.piece(0, bad, 1), UNKNOWN);
            Check.due("piece ahead of how", x.piece(bad, 0, 7), UNKNOWN);
            if (bad != NONE) {
                Check.due("how", x.piece(0, 0, bad), OUTSIDE);
            }
        }
        Check.due("piece 16", x.piece(16, 0, 1), UNKNOWN);
        Check.due("forme 6", x.piece(0, 6, 1), UNKNOWN);
        Check.due("how 2", x.piece(0, 0, 2), OUTSIDE);
        Check.due("what stood", x.piece(0, 0, 0), 0);
    }

    private static void shareAndMust() {
        PressSheets x = new PressSheets();
        x.piece(3, 1, 1);
        x.piece(3, 4, 1);
        Check.due("both hurt: share", x.share(1, 4), 1);
        Check.due("both hurt: no must", x.must(1, 4) + x.must(4, 1), 0);
        x.piece(3, 2, 0);
        Check.due("whole ahead of hurt", x.must(2, 1), 1);
        Check.due("and of the other", x.must(2, 4), 1);
        Check.due("not back", x.must(1, 2), 0);
        x.piece(4, 4, 0);
        x.piece(4, 5, 1);
        Check.due("through another", x.must(2, 5), 1);
        Check.due("which does not share", x.share(2, 5), 0);
        Check.due("4 shares by piece 3", x.share(4, 1), 1);
        Check.due("4 shares by piece 4 too", x.share(4, 5), 1);
        Check.due("share with itself", x.share(2, 2), 1);
        Check.due("one that is not told of", x.share(0, 0), 0);
        Check.due("not ahead of itself", x.must(2, 2), 0);
    }

    private static void rings() {
        PressSheets x = new PressSheets();
        x.piece(0, 0, 0);
        x.piece(0, 1, 1);
        x.piece(1, 1, 0);
        x.piece(1, 0, 1);
        Check.due("two", x.ring(), 2);
        Check.due("ahead of itself", x.must(0, 0), 1);
        x.piece(2, 1, 0);
        x.piece(2, 5, 1);
        Check.due("behind a ring, not of it", x.ring(), 2);
        Check.due("no plan", x.plans(6), 0);
        Check.due("no day", x.day(6, 5), NONE);
        Check.due("no fewest", x.fewest(), NONE);
        Check.due("beside", x.beside(6, 0, 5), 0);
        x.piece(1, 0, 0);
        Check.due("broken", x.ring(), 0);
    }

    private static void pressesAnswerWhatTheyWere() {
        PressSheets x = new PressSheets();
        Check.due("2 at first", x.presses(6), 2);
        for (int bad : Check.NOWHERE) {
            Check.due("presses", x.presses(bad), OUTSIDE);
        }
        Check.due("0", x.presses(0), OUTSIDE);
        Check.due("7", x.presses(7), OUTSIDE);
        Check.due("6 stays", x.presses(1), 6);
        Check.due("1", x.presses(1), 1);
    }

    /** Formes that have each a piece of their own. */
    private static PressSheets apart(int formes) {
        PressSheets x = new PressSheets();
        for (int f = 0; f < formes; f++) {
            x.piece(f, f, 0);
        }
        return x;
    }

    private static void plansKeepShares() {
        PressSheets x = apart(2);
        Check.due("apart", x.plans(3), 9);
        x.piece(9, 0, 1);
        x.piece(9, 1, 1);
        Check.due("on unlike days", x.plans(3), 6);
        Check.due("not in one day", x.plans(1), 0);
        x.piece(9, 0, 0);
        Check.due("on an earlier day", x.plans(3), 3);
    }

    private static void plansKeepPresses() {
        PressSheets x = apart(6);
        Check.due("two a day, three days", x.plans(3), 90);
        Check.due("two a day, two days", x.plans(2), 0);
        x.presses(6);
        Check.due("six a day", x.plans(6), 46656);
        Check.due("one day", x.plans(1), 1);
        x.presses(1);
        Check.due("one a day", x.plans(6), 720);
        Check.due("one a day, five days", x.plans(5), 0);
        x.presses(5);
        Check.due("all but six on one", x.plans(6), 46650);
    }

    private static void days(String what, PressSheets x, int d, int... want) {
        for (int f = 0; f < want.length; f++) {
            Check.due(what + ": day(" + d + ", " + f + ")", x.day(d, f), want[f]);
        }
    }

    private static void dayOfTheFirst() {
        PressSheets x = apart(5);
        days("two a day", x, 6, 0, 0, 1, 1, 2, NONE);
        days("no plan", x, 2, NONE, NONE, NONE, NONE, NONE, NONE);
        x.piece(7, 4, 0);
        x.piece(7, 0, 1);
        days("4 ahead of 0", x, 3, 1, 0, 1, 2, 0, NONE);
        days("forme 0 as early as can be", x, 6, 1, 0, 1, 2, 0, NONE);
    }

    private static void besideCountsPlans() {
        PressSheets x = apart(3);
        Check.due("plans", x.plans(2), 6);
        Check.due("two of three", x.beside(2, 0, 2), 2);
        Check.due("the other way", x.beside(2, 2, 0), 2);
        Check.due("one with itself", x.beside(2, 1, 1), 6);
        x.presses(3);
        Check.due("three", x.beside(2, 0, 2), 4);
        Check.due("one day", x.beside(1, 0, 2), 1);
        Check.due("not told of", x.beside(2, 0, 3), STATE);
        Check.due("not told of", x.beside(2, 3, 0), STATE);
        x.piece(8, 0, 1);
        x.piece(8, 2, 1);
        Check.due("share", x.beside(2, 0, 2), 0);
        Check.due("plans stay", x.plans(2), 4);
    }

    private static void fewestDays() {
        PressSheets x = apart(5);
        Check.due("two a day", x.fewest(), 3);
        x.presses(5);
        Check.due("five a day", x.fewest(), 1);
        x.presses(4);
        Check.due("four a day", x.fewest(), 2);
        x.presses(1);
        Check.due("one a day", x.fewest(), 5);
    }

    private static void aChainOfSix() {
        PressSheets x = new PressSheets();
        for (int f = 0; f < 5; f++) {
            x.piece(f, f + 1, 0);
            x.piece(f, f, 1);
        }
        Check.due("5 ahead of 0", x.must(5, 0), 1);
        Check.due("fewest", x.fewest(), 6);
        Check.due("plans", x.plans(6), 1);
        Check.due("five days", x.plans(5), 0);
        days("backwards", x, 6, 5, 4, 3, 2, 1, 0);
        Check.due("ring", x.ring(), 0);
        x.piece(15, 0, 0);
        x.piece(15, 5, 1);
        Check.due("ring of six", x.ring(), 6);
        Check.due("ahead of itself", x.must(3, 3), 1);
        Check.due("told of", x.count(2), 6);
    }

    private static void plansFollowWhatIsTold() {
        PressSheets x = apart(2);
        days("side by side", x, 2, 0, 0);
        x.presses(1);
        days("one a day", x, 2, 0, 1);
        Check.due("refused", x.presses(9), OUTSIDE);
        days("still", x, 2, 0, 1);
        days("one day", x, 1, NONE, NONE);
        x.piece(5, 1, 0);
        x.piece(5, 0, 1);
        days("1 ahead of 0", x, 2, 1, 0);
        x.piece(5, 1, NONE);
        days("no more", x, 2, 0, 1);
    }

    private static void refusals() {
        PressSheets x = apart(2);
        for (int bad : Check.NOWHERE) {
            Check.due("share a", x.share(bad, 0), UNKNOWN);
            Check.due("share b", x.share(0, bad), UNKNOWN);
            Check.due("must a", x.must(bad, 0), UNKNOWN);
            Check.due("must b", x.must(0, bad), UNKNOWN);
            Check.due("plans", x.plans(bad), OUTSIDE);
            Check.due("day d", x.day(bad, 0), OUTSIDE);
            Check.due("day forme", x.day(1, bad), UNKNOWN);
            Check.due("day both", x.day(bad, bad), UNKNOWN);
            Check.due("beside d", x.beside(bad, 0, 1), OUTSIDE);
            Check.due("beside d ahead of not told of", x.beside(bad, 0, 5), OUTSIDE);
            Check.due("beside a", x.beside(1, bad, 1), UNKNOWN);
            Check.due("beside b", x.beside(bad, 0, bad), UNKNOWN);
        }
        Check.due("0 days", x.plans(0), OUTSIDE);
        Check.due("7 days", x.plans(7), OUTSIDE);
        Check.due("0 days", x.day(0, 0), OUTSIDE);
        Check.due("7 days", x.beside(7, 0, 1), OUTSIDE);
        Check.due("forme 6", x.share(6, 6), UNKNOWN);
        Check.due("forme 6", x.must(6, 6), UNKNOWN);
        Check.due("day of one that is not told of", x.day(1, 5), NONE);
    }
}
