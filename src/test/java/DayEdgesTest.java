/** Promises 14 to 22: each sentence that names a boundary case, with a test of its own. */
public final class DayEdgesTest {
    private static final int UNKNOWN = Check.UNKNOWN, OUTSIDE = Check.OUTSIDE, STATE = Check.STATE, NONE = Check.NONE;
    private static final int WHOLE = 0, HURT = 1;

    public static void main(String[] args) {
        pieceAtEachCorner();
        pieceIsWholeHurtOrNot();
        pieceAllOfThem();
        shareByOnePieceInBoth();
        shareHoweverThePieceIs();
        shareWithItself();
        shareRefuses();
        mustOnlyFromWholeToHurt();
        mustThroughOthers();
        mustOfItself();
        mustRefuses();
        ringFromNoneToSix();
        ringOnlyOfThoseAheadOfThemselves();
        ringsOfTwoAndTwo();
        pressesFromOneToSix();
        plansOfNoForme();
        plansFromOneToSixDays();
        plansOfUnlikeDays();
        plansOfEarlierDays();
        plansOnlyOfThoseToldOf();
        plansOfEachNumberOfPresses();
        plansOfARing();
        dayOfOneNotToldOf();
        dayWithoutAPlan();
        dayZeroAndTheLast();
        dayIsTheFirstFormeByForme();
        dayRefuses();
        besideOfThoseThatShare();
        besideOnOneDay();
        besideOfOneNotToldOf();
        besideRefuses();
        besideOfARing();
        besideOfOneWithItself();
        fewestFromOneToSix();
        fewestOfARing();
        fewestOfShares();
        toldOfByTheLastPiece();
        Check.finish();
    }

    /** Formes that have each a piece of their own, the piece of the forme's number. */
    private static PressSheets apart(int formes) {
        PressSheets x = new PressSheets();
        for (int f = 0; f < formes; f++) {
            x.piece(f, f, WHOLE);
        }
        return x;
    }

    /** One piece more, whole in a and hurt in b. */
    private static void lead(PressSheets x, int piece, int a, int b) {
        x.piece(piece, a, WHOLE);
        x.piece(piece, b, HURT);
    }

    private static PressSheets lineOfSix() {
        PressSheets x = new PressSheets();
        for (int f = 0; f < 5; f++) {
            lead(x, f, f, f + 1);
        }
        return x;
    }

    private static void days(String what, PressSheets x, int d, int... want) {
        for (int f = 0; f < 6; f++) {
            Check.due(what + ": day of forme " + f, x.day(d, f), f < want.length ? want[f] : NONE);
        }
    }

    // ---- promise 14

    private static void pieceAtEachCorner() {
        PressSheets x = new PressSheets();
        for (int p = 0; p <= 15; p += 15) {
            for (int f = 0; f <= 5; f += 5) {
                Check.due("not at first", x.piece(p, f, HURT), NONE);
                Check.due("hurt", x.piece(p, f, WHOLE), HURT);
                Check.due("whole", x.piece(p, f, NONE), WHOLE);
                Check.due("not", x.piece(p, f, NONE), NONE);
            }
        }
        Check.due("piece 16", x.piece(16, 0, WHOLE), UNKNOWN);
        Check.due("piece -1", x.piece(-1, 0, WHOLE), UNKNOWN);
        Check.due("forme 6", x.piece(0, 6, WHOLE), UNKNOWN);
        Check.due("forme -1", x.piece(0, -1, WHOLE), UNKNOWN);
        Check.due("how 2", x.piece(0, 0, 2), OUTSIDE);
        Check.due("how -1", x.piece(0, 0, -1), OUTSIDE);
        Check.due("no piece and no how", x.piece(16, 0, 2), UNKNOWN);
        Check.due("no forme and no how", x.piece(0, 6, 2), UNKNOWN);
        Check.due("no forme is told of", x.count(2), 0);
    }

    private static void pieceIsWholeHurtOrNot() {
        PressSheets x = new PressSheets();
        lead(x, 7, 2, 3);
        Check.due("told again", x.piece(7, 2, WHOLE), WHOLE);
        Check.due("must", x.must(2, 3), 1);
        Check.due("a refused how", x.piece(7, 2, 2), OUTSIDE);
        Check.due("changes nothing", x.must(2, 3), 1);
        Check.due("hurt in both", x.piece(7, 2, HURT), WHOLE);
        Check.due("no must", x.must(2, 3), 0);
        Check.due("whole in the other", x.piece(7, 3, WHOLE), HURT);
        Check.due("the other way", x.must(3, 2), 1);
        Check.due("in one no more", x.piece(7, 2, NONE), HURT);
        Check.due("no must", x.must(3, 2), 0);
        Check.due("no share", x.share(2, 3), 0);
    }

    private static void pieceAllOfThem() {
        PressSheets x = new PressSheets();
        for (int p = 0; p < 16; p++) {
            for (int f = 0; f < 6; f++) {
                Check.due("not at first", x.piece(p, f, (p + f) % 2), NONE);
            }
        }
        Check.due("all formes", x.count(2), 6);
        Check.due("all in a ring", x.ring(), 6);
        for (int p = 0; p < 16; p++) {
            for (int f = 0; f < 6; f++) {
                Check.due("as it was told", x.piece(p, f, NONE), (p + f) % 2);
            }
        }
        Check.due("none", x.count(2), 0);
        Check.due("no ring", x.ring(), 0);
        Check.due("nothing to lay", x.plans(1), 1);
    }

    // ---- promise 15

    private static void shareByOnePieceInBoth() {
        PressSheets x = apart(6);
        for (int a = 0; a < 6; a++) {
            for (int b = 0; b < 6; b++) {
                Check.due("each its own piece: " + a + ", " + b, x.share(a, b), a == b ? 1 : 0);
            }
        }
        x.piece(15, 0, WHOLE);
        x.piece(15, 5, WHOLE);
        Check.due("0 and 5", x.share(0, 5), 1);
        Check.due("5 and 0", x.share(5, 0), 1);
        Check.due("0 and 4", x.share(0, 4), 0);
        x.piece(15, 5, NONE);
        Check.due("no more", x.share(0, 5), 0);
    }

    private static void shareHoweverThePieceIs() {
        for (int a = WHOLE; a <= HURT; a++) {
            for (int b = WHOLE; b <= HURT; b++) {
                PressSheets x = new PressSheets();
                x.piece(3, 1, a);
                Check.due("in one alone", x.share(1, 4), 0);
                x.piece(3, 4, b);
                Check.due("in both: " + a + ", " + b, x.share(1, 4), 1);
            }
        }
    }

    private static void shareWithItself() {
        PressSheets x = new PressSheets();
        Check.due("not told of", x.share(5, 5), 0);
        x.piece(0, 5, HURT);
        Check.due("a piece is in it", x.share(5, 5), 1);
        Check.due("and it can lie all the same", x.plans(1), 1);
    }

    private static void shareRefuses() {
        PressSheets x = apart(6);
        Check.due("a 6", x.share(6, 0), UNKNOWN);
        Check.due("b 6", x.share(0, 6), UNKNOWN);
        Check.due("a -1", x.share(-1, 0), UNKNOWN);
        Check.due("b -1", x.share(0, -1), UNKNOWN);
        Check.due("both 6", x.share(6, 6), UNKNOWN);
        Check.due("b 32", x.share(0, 32), UNKNOWN);
    }

    // ---- promise 16

    private static void mustOnlyFromWholeToHurt() {
        PressSheets x = new PressSheets();
        x.piece(0, 0, WHOLE);
        x.piece(0, 5, WHOLE);
        Check.due("both whole", x.must(0, 5) + x.must(5, 0), 0);
        x.piece(0, 5, HURT);
        Check.due("whole, hurt", x.must(0, 5), 1);
        Check.due("not back", x.must(5, 0), 0);
        x.piece(0, 0, HURT);
        Check.due("both hurt", x.must(0, 5) + x.must(5, 0), 0);
        x.piece(0, 0, NONE);
        x.piece(1, 0, WHOLE);
        Check.due("whole and hurt by two pieces", x.must(0, 5), 0);
    }

    private static void mustThroughOthers() {
        PressSheets x = lineOfSix();
        for (int a = 0; a < 6; a++) {
            for (int b = 0; b < 6; b++) {
                Check.due("line: " + a + ", " + b, x.must(a, b), a < b ? 1 : 0);
            }
        }
        x.piece(2, 3, NONE);
        Check.due("broken in the middle", x.must(0, 5), 0);
        Check.due("up to there", x.must(0, 2), 1);
        Check.due("from there", x.must(3, 5), 1);
        // The links told backwards: the order of telling and of pieces is nothing.
        x = new PressSheets();
        for (int f = 5; f > 0; f--) {
            lead(x, 5 - f, f, f - 1);
        }
        Check.due("5 ahead of 0", x.must(5, 0), 1);
        Check.due("0 not ahead of 5", x.must(0, 5), 0);
    }

    private static void mustOfItself() {
        PressSheets x = apart(1);
        Check.due("not of itself", x.must(0, 0), 0);
        lead(x, 8, 0, 5);
        lead(x, 9, 5, 0);
        Check.due("through another", x.must(0, 0), 1);
        Check.due("the other too", x.must(5, 5), 1);
    }

    private static void mustRefuses() {
        PressSheets x = lineOfSix();
        Check.due("a 6", x.must(6, 0), UNKNOWN);
        Check.due("b 6", x.must(0, 6), UNKNOWN);
        Check.due("a -1", x.must(-1, 0), UNKNOWN);
        Check.due("b -1", x.must(0, -1), UNKNOWN);
        Check.due("b 33, which a shift takes for 1", x.must(0, 33), UNKNOWN);
    }

    // ---- promise 17

    private static void ringFromNoneToSix() {
        PressSheets x = new PressSheets();
        Check.due("nothing", x.ring(), 0);
        x = lineOfSix();
        Check.due("a line", x.ring(), 0);
        lead(x, 15, 5, 0);
        Check.due("all six", x.ring(), 6);
        x.piece(15, 5, NONE);
        Check.due("a line again", x.ring(), 0);
        lead(x, 15, 1, 0);
        Check.due("two", x.ring(), 2);
    }

    private static void ringOnlyOfThoseAheadOfThemselves() {
        PressSheets x = new PressSheets();
        lead(x, 0, 0, 1);
        lead(x, 1, 1, 2);
        lead(x, 2, 2, 3);
        lead(x, 3, 3, 1);
        lead(x, 4, 3, 4);
        Check.due("0 leads into it, 4 comes out of it", x.ring(), 3);
        Check.due("0 ahead of 4", x.must(0, 4), 1);
        Check.due("0 not of itself", x.must(0, 0), 0);
        Check.due("4 not of itself", x.must(4, 4), 0);
    }

    private static void ringsOfTwoAndTwo() {
        PressSheets x = new PressSheets();
        lead(x, 0, 0, 1);
        lead(x, 1, 1, 0);
        lead(x, 2, 4, 5);
        lead(x, 3, 5, 4);
        Check.due("two rings", x.ring(), 4);
        Check.due("one not ahead of the other", x.must(0, 4) + x.must(5, 1), 0);
    }

    // ---- promise 18

    private static void pressesFromOneToSix() {
        PressSheets x = new PressSheets();
        int was = 2;
        for (int v = 1; v <= 6; v++) {
            Check.due("to " + v, x.presses(v), was);
            was = v;
        }
        Check.due("0", x.presses(0), OUTSIDE);
        Check.due("7", x.presses(7), OUTSIDE);
        Check.due("-1", x.presses(-1), OUTSIDE);
        Check.due("NONE", x.presses(NONE), OUTSIDE);
        Check.due("6 stays", x.presses(6), 6);
    }

    // ---- promise 19

    private static void plansOfNoForme() {
        PressSheets x = new PressSheets();
        for (int d = 1; d <= 6; d++) {
            Check.due("the empty plan, " + d, x.plans(d), 1);
        }
        Check.due("0", x.plans(0), OUTSIDE);
        Check.due("7", x.plans(7), OUTSIDE);
        Check.due("-1", x.plans(-1), OUTSIDE);
        Check.due("NONE", x.plans(NONE), OUTSIDE);
    }

    private static void plansFromOneToSixDays() {
        PressSheets x = apart(1);
        for (int d = 1; d <= 6; d++) {
            Check.due("one forme, " + d, x.plans(d), d);
        }
        x = apart(2);
        for (int d = 1; d <= 6; d++) {
            Check.due("two formes, " + d, x.plans(d), d * d);
        }
        x = apart(6);
        x.presses(6);
        for (int d = 1; d <= 6; d++) {
            Check.due("six formes, " + d, x.plans(d), d * d * d * d * d * d);
        }
    }

    private static void plansOfUnlikeDays() {
        PressSheets x = new PressSheets();
        int all = 1;
        x.presses(6);
        for (int f = 0; f < 6; f++) {
            x.piece(15, f, HURT);
            all *= 6 - f;
            Check.due("one piece in formes to " + f, x.plans(6), all);
            Check.due("days too few by one", x.plans(Math.max(1, f)), f == 0 ? 1 : 0);
        }
    }

    private static void plansOfEarlierDays() {
        PressSheets x = lineOfSix();
        Check.due("one plan for six", x.plans(6), 1);
        Check.due("none for five", x.plans(5), 0);
        x = new PressSheets();
        lead(x, 0, 5, 0);
        Check.due("an earlier day, not the same", x.plans(1), 0);
        Check.due("two days", x.plans(2), 1);
        Check.due("six days", x.plans(6), 15);
        // 0 is ahead of 2 through 1; 0 and 2 do not share.
        x = new PressSheets();
        lead(x, 0, 0, 1);
        lead(x, 1, 1, 2);
        Check.due("three", x.plans(3), 1);
        Check.due("four", x.plans(4), 4);
    }

    private static void plansOnlyOfThoseToldOf() {
        PressSheets x = new PressSheets();
        x.piece(0, 5, WHOLE);
        Check.due("forme 5 alone", x.plans(6), 6);
        x.piece(0, 5, NONE);
        Check.due("none any more", x.plans(6), 1);
    }

    private static void plansOfEachNumberOfPresses() {
        PressSheets x = apart(6);
        int[] onTwoDays = {0, 0, 20, 50, 62, 64};
        int[] onOneDay = {0, 0, 0, 0, 0, 1};
        for (int v = 1; v <= 6; v++) {
            x.presses(v);
            Check.due("two days, presses " + v, x.plans(2), onTwoDays[v - 1]);
            Check.due("one day, presses " + v, x.plans(1), onOneDay[v - 1]);
        }
        x.presses(1);
        Check.due("one a day", x.plans(6), 720);
        Check.due("refused", x.presses(7), OUTSIDE);
        Check.due("one a day still", x.plans(6), 720);
    }

    private static void plansOfARing() {
        PressSheets x = apart(6);
        x.presses(6);
        lead(x, 8, 4, 5);
        lead(x, 9, 5, 4);
        for (int d = 1; d <= 6; d++) {
            Check.due("none for " + d, x.plans(d), 0);
        }
        x.piece(9, 4, NONE);
        Check.due("no ring", x.plans(6), 6 * 6 * 6 * 6 * 15);
    }

    // ---- promise 20

    private static void dayOfOneNotToldOf() {
        PressSheets x = new PressSheets();
        x.piece(0, 1, WHOLE);
        days("forme 1 alone", x, 1, NONE, 0);
        days("forme 1 alone, six days", x, 6, NONE, 0);
        x.piece(0, 1, NONE);
        days("none", x, 6);
    }

    private static void dayWithoutAPlan() {
        PressSheets x = apart(3);
        days("three on one day", x, 1);
        x.presses(3);
        days("three presses", x, 1, 0, 0, 0);
        lead(x, 8, 0, 1);
        lead(x, 9, 1, 0);
        days("a ring: none, also of forme 2", x, 6);
        x.piece(9, 0, NONE);
        days("no ring", x, 6, 0, 1, 0);
    }

    private static void dayZeroAndTheLast() {
        PressSheets x = lineOfSix();
        days("a line", x, 6, 0, 1, 2, 3, 4, 5);
        days("five days", x, 5);
        days("again", x, 6, 0, 1, 2, 3, 4, 5);
    }

    private static void dayIsTheFirstFormeByForme() {
        PressSheets x = apart(6);
        days("two presses", x, 3, 0, 0, 1, 1, 2, 2);
        days("more days than are needed", x, 6, 0, 0, 1, 1, 2, 2);
        x.presses(1);
        days("one press", x, 6, 0, 1, 2, 3, 4, 5);
        lead(x, 10, 5, 0);
        days("5 ahead of 0", x, 6, 1, 2, 3, 4, 5, 0);
        x.presses(2);
        days("two presses again", x, 6, 1, 0, 1, 2, 2, 0);
        // Forme 0 can't lie earlier, however many days there are.
        x = new PressSheets();
        lead(x, 0, 4, 5);
        lead(x, 1, 5, 0);
        days("two are ahead of 0", x, 6, 2, NONE, NONE, NONE, 0, 1);
    }

    private static void dayRefuses() {
        PressSheets x = apart(2);
        Check.due("0 days", x.day(0, 0), OUTSIDE);
        Check.due("7 days", x.day(7, 0), OUTSIDE);
        Check.due("-1 days", x.day(-1, 0), OUTSIDE);
        Check.due("0 days, one not told of", x.day(0, 5), OUTSIDE);
        Check.due("forme 6", x.day(1, 6), UNKNOWN);
        Check.due("forme -1", x.day(1, -1), UNKNOWN);
        Check.due("no forme and no days", x.day(0, 6), UNKNOWN);
        Check.due("no forme and no days", x.day(7, -1), UNKNOWN);
    }

    // ---- promise 21

    private static void besideOfThoseThatShare() {
        PressSheets x = apart(3);
        x.piece(15, 0, WHOLE);
        x.piece(15, 2, WHOLE);
        for (int d = 1; d <= 6; d++) {
            Check.due("never, " + d, x.beside(d, 0, 2), 0);
        }
        Check.due("0 and 1", x.beside(2, 0, 1), 2);
    }

    private static void besideOnOneDay() {
        PressSheets x = apart(6);
        x.presses(6);
        Check.due("the one plan", x.beside(1, 0, 5), 1);
        Check.due("six days", x.beside(6, 0, 5), 7776);
        x.presses(2);
        Check.due("none for one day", x.beside(1, 0, 5), 0);
        Check.due("three days", x.beside(3, 0, 5), 18);
        x.presses(1);
        Check.due("one press", x.beside(6, 0, 5), 0);
        Check.due("plans there are", x.plans(6), 720);
    }

    private static void besideOfOneNotToldOf() {
        PressSheets x = apart(2);
        Check.due("b", x.beside(1, 0, 2), STATE);
        Check.due("a", x.beside(1, 2, 0), STATE);
        Check.due("both", x.beside(6, 4, 5), STATE);
        Check.due("both, one forme", x.beside(6, 5, 5), STATE);
        x.piece(15, 2, HURT);
        Check.due("told of now", x.beside(2, 0, 2), 2);
        x.piece(15, 2, NONE);
        Check.due("no more", x.beside(2, 0, 2), STATE);
    }

    private static void besideRefuses() {
        PressSheets x = apart(2);
        Check.due("0 days", x.beside(0, 0, 1), OUTSIDE);
        Check.due("7 days", x.beside(7, 0, 1), OUTSIDE);
        Check.due("-1 days", x.beside(-1, 0, 1), OUTSIDE);
        Check.due("a 6", x.beside(1, 6, 0), UNKNOWN);
        Check.due("b 6", x.beside(1, 0, 6), UNKNOWN);
        Check.due("a -1", x.beside(1, -1, 0), UNKNOWN);
        Check.due("b -1", x.beside(1, 0, -1), UNKNOWN);
        Check.due("no forme and no days", x.beside(0, 6, 0), UNKNOWN);
        Check.due("no forme, one not told of", x.beside(1, 5, 6), UNKNOWN);
        Check.due("no days, one not told of", x.beside(7, 0, 5), OUTSIDE);
        Check.due("all three", x.beside(0, 5, -1), UNKNOWN);
    }

    private static void besideOfARing() {
        PressSheets x = apart(2);
        lead(x, 8, 4, 5);
        lead(x, 9, 5, 4);
        Check.due("there is no plan", x.beside(6, 0, 1), 0);
        Check.due("not told of", x.beside(6, 0, 3), STATE);
    }

    private static void besideOfOneWithItself() {
        PressSheets x = apart(3);
        Check.due("all plans", x.beside(3, 2, 2), x.plans(3));
        Check.due("none for one day", x.beside(1, 2, 2), 0);
    }

    // ---- promise 22

    private static void fewestFromOneToSix() {
        PressSheets x = new PressSheets();
        Check.due("nothing to lay", x.fewest(), 1);
        x.presses(1);
        for (int f = 0; f < 6; f++) {
            x.piece(f, f, WHOLE);
            Check.due("one press, formes to " + f, x.fewest(), f + 1);
        }
        int[] due = {6, 3, 2, 2, 2, 1};
        for (int v = 1; v <= 6; v++) {
            x.presses(v);
            Check.due("six formes, presses " + v, x.fewest(), due[v - 1]);
        }
        Check.due("a line", lineOfSix().fewest(), 6);
    }

    private static void fewestOfARing() {
        PressSheets x = lineOfSix();
        lead(x, 15, 5, 4);
        Check.due("a ring", x.fewest(), NONE);
        x.piece(15, 5, HURT);
        Check.due("no ring", x.fewest(), 6);
    }

    private static void fewestOfShares() {
        PressSheets x = new PressSheets();
        x.presses(6);
        for (int f = 0; f < 6; f++) {
            x.piece(15, f, WHOLE);
            Check.due("all share, formes to " + f, x.fewest(), f + 1);
        }
        x.piece(15, 0, NONE);
        Check.due("five of them", x.fewest(), 5);
    }

    /** FORMES are TOLD OF, if a PIECE is in them: whole or hurt, the first piece or the last. */
    private static void toldOfByTheLastPiece() {
        for (int how = WHOLE; how <= HURT; how++) {
            for (int p = 0; p <= 15; p += 15) {
                PressSheets x = new PressSheets();
                x.piece(p, 5, how);
                Check.due("one forme", x.count(2), 1);
                Check.due("it has a day", x.day(1, 5), 0);
                x.piece(p, 5, NONE);
                Check.due("none", x.count(2), 0);
                Check.due("it has none", x.day(1, 5), NONE);
            }
        }
    }
}
