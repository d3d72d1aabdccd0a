/** Promises 8 to 13: each sentence that names a boundary case, with a test of its own. */
public final class OrderEdgesTest {
    private static final int UNKNOWN = Check.UNKNOWN, STATE = Check.STATE, NONE = Check.NONE;
    private static final String[] NINE = {
        "000000", "111111", "222222", "333333", "444444", "555555", "666666", "777777", "888888"};

    public static void main(String[] args) {
        aheadAtBothEnds();
        aheadToldTwice();
        aheadBothWays();
        aheadOfOneForme();
        aheadBothAreOne();
        aheadAllOfAForme();
        aheadNotInForceWhileOneIsNotLookedAt();
        aheadNotInForceInOneState();
        aheadOfAnyCopyOfAState();
        changesFromOneToSix();
        changesOnlyWhereBothHaveLetters();
        changesOfOneStateWithItself();
        changesOfTheLastStateAndTheFirstThatIsNot();
        leastOfNoneAndOfOne();
        leastOfNine();
        leastOfNearStates();
        leastWithoutAnOrder();
        ordersOfNoneAndOfOne();
        ordersOfNine();
        ordersWithoutAnOrder();
        ordersCountOnlyTheLeast();
        ordersThatAreDearerForWhatIsTold();
        firstAtBothEnds();
        firstOfNone();
        firstWithoutAnOrder();
        firstIsByNumbersOfStates();
        firstIsOneOfTheLeast();
        beforeBothAreOne();
        beforeAndBehindAreAll();
        beforeNotInDearerOrders();
        beforeWithoutAnOrder();
        beforeOfTheLastState();
        ordersOfOtherFormesStay();
        Check.finish();
    }

    private static void order(String what, PressSheets x, int forme, int... want) {
        for (int i = 0; i < 9; i++) {
            Check.due(what + ": first " + i, x.first(forme, i), i < want.length ? want[i] : NONE);
        }
    }

    // ---- promise 8

    private static void aheadAtBothEnds() {
        PressSheets x = new PressSheets();
        Check.due("forme 0, copies 0 and 8", x.ahead(0, 0, 8, true), 0);
        Check.due("forme 5, copies 8 and 0", x.ahead(5, 8, 0, true), 0);
        Check.due("was told", x.ahead(0, 0, 8, true), 1);
        Check.due("was told", x.ahead(5, 8, 0, true), 1);
        Check.due("forme -1", x.ahead(-1, 0, 8, true), UNKNOWN);
        Check.due("forme 6", x.ahead(6, 0, 8, true), UNKNOWN);
        Check.due("a -1", x.ahead(0, -1, 8, true), UNKNOWN);
        Check.due("a 9", x.ahead(0, 9, 8, true), UNKNOWN);
        Check.due("b -1", x.ahead(0, 0, -1, true), UNKNOWN);
        Check.due("b 9", x.ahead(0, 0, 9, true), UNKNOWN);
        Check.due("two are told", x.count(1), 2);
    }

    private static void aheadToldTwice() {
        PressSheets x = new PressSheets();
        Check.due("no more, never told", x.ahead(2, 3, 4, false), 0);
        Check.due("told", x.ahead(2, 3, 4, true), 0);
        Check.due("told again", x.ahead(2, 3, 4, true), 1);
        Check.due("counts once", x.count(1), 1);
        Check.due("no more", x.ahead(2, 3, 4, false), 1);
        Check.due("no more again", x.ahead(2, 3, 4, false), 0);
        Check.due("counts no more", x.count(1), 0);
    }

    private static void aheadBothWays() {
        PressSheets x = Copies.of(0, "1", "2");
        x.ahead(0, 0, 1, true);
        Check.due("the other way was not told", x.ahead(0, 1, 0, true), 0);
        Check.due("two", x.count(1), 2);
        Check.due("no order keeps both", x.orders(0), 0);
        Check.due("one is taken back", x.ahead(0, 0, 1, false), 1);
        order("the other way stays", x, 0, 1, 0);
    }

    private static void aheadOfOneForme() {
        PressSheets x = Copies.of(0, "1", "2");
        x.read(0, 1, 0, 1);
        x.read(1, 1, 0, 2);
        x.ahead(1, 1, 0, true);
        order("forme 0", x, 0, 0, 1);
        order("forme 1", x, 1, 1, 0);
        Check.due("forme 0 was not told", x.ahead(0, 1, 0, false), 0);
    }

    private static void aheadBothAreOne() {
        PressSheets x = Copies.of(0, "1", "2");
        for (int c = 0; c < 9; c++) {
            Check.due("copy " + c, x.ahead(0, c, c, true), STATE);
            Check.due("copy " + c + ", no more", x.ahead(5, c, c, false), STATE);
        }
        Check.due("no forme", x.ahead(6, 0, 0, true), UNKNOWN);
        Check.due("no copy", x.ahead(0, 9, 9, true), UNKNOWN);
        Check.due("no copy", x.ahead(0, -1, -1, false), UNKNOWN);
        Check.due("nothing told", x.count(1), 0);
        Check.due("all orders", x.orders(0), 2);
    }

    private static void aheadAllOfAForme() {
        PressSheets x = Copies.of(3, "1", "2");
        for (int a = 0; a < 9; a++) {
            for (int b = 0; b < 9; b++) {
                if (a != b) {
                    Check.due("told", x.ahead(3, a, b, true), 0);
                }
            }
        }
        Check.due("all", x.count(1), 72);
        Check.due("no order", x.orders(3), 0);
        for (int b = 8; b >= 0; b--) {
            for (int a = 8; a >= 0; a--) {
                if (a != b) {
                    Check.due("no more", x.ahead(3, a, b, false), 1);
                }
            }
        }
        Check.due("none", x.count(1), 0);
        Check.due("both orders", x.orders(3), 2);
    }

    private static void aheadNotInForceWhileOneIsNotLookedAt() {
        PressSheets x = Copies.of(0, "1", "2");
        x.ahead(0, 8, 0, true);
        x.ahead(0, 0, 8, true);
        x.ahead(0, 7, 8, true);
        x.ahead(0, 8, 7, true);
        Check.due("one or both not looked at", x.orders(0), 2);
        Check.due("told all the same", x.count(1), 4);
        x.ahead(0, 0, 8, false);
        x.read(8, 0, 0, 3);
        order("8 is looked at", x, 0, 1, 2, 0);
        x.read(8, 0, 0, NONE);
        order("not any more", x, 0, 0, 1);
        x.read(8, 0, 0, 3);
        order("again: it was kept", x, 0, 1, 2, 0);
    }

    private static void aheadNotInForceInOneState() {
        PressSheets x = Copies.of(0, "1.", "1.", "2.");
        x.ahead(0, 0, 1, true);
        x.ahead(0, 1, 0, true);
        Check.due("of one state", x.orders(0), 2);
        x.read(0, 0, 1, 5);
        Check.due("still of one", x.orders(0), 2);
        x.read(1, 0, 1, 6);
        Check.due("of two now", x.orders(0), 0);
        Check.due("of two now", x.least(0), NONE);
        x.read(1, 0, 1, NONE);
        Check.due("of one again", x.orders(0), 2);
    }

    private static void aheadOfAnyCopyOfAState() {
        PressSheets x = Copies.of(0, "1", "2", "", "", "", "", "", "2", "1");
        x.ahead(0, 7, 8, true);
        order("the last of each state", x, 0, 1, 0);
        x.ahead(0, 0, 1, true);
        Check.due("against another of the same", x.orders(0), 0);
    }

    // ---- promise 9

    private static void changesFromOneToSix() {
        PressSheets x = Copies.of(5, "555555", "555555");
        for (int p = 0; p < 6; p++) {
            x.read(1, 5, p, 6);
            Check.due("to place " + p, x.changes(5, 0, 1), p + 1);
            Check.due("the other way", x.changes(5, 1, 0), p + 1);
        }
        Check.due("letters 0 and 9", Copies.of(0, "0", "9").changes(0, 0, 1), 1);
    }

    private static void changesOnlyWhereBothHaveLetters() {
        // States 112 of three copies, 2.3 and .24 of one each.
        PressSheets x = Copies.of(0, "1..", ".1.", "1.2", "2.3", ".24");
        Check.due("states", x.states(0), 3);
        Check.due("0 and 1: not at place 1", x.changes(0, 0, 1), 2);
        Check.due("0 and 2: not at place 0", x.changes(0, 0, 2), 2);
        Check.due("1 and 2: at place 2 alone", x.changes(0, 1, 2), 1);
        x.read(2, 0, 2, NONE);
        Check.due("other groups, 124 and 213", x.changes(0, 0, 1), 3);
    }

    private static void changesOfOneStateWithItself() {
        PressSheets x = Copies.of(0, NINE);
        for (int s = 0; s < 9; s++) {
            Check.due("state " + s, x.changes(0, s, s), 0);
        }
        Check.due("no state 9", x.changes(0, 9, 9), UNKNOWN);
    }

    private static void changesOfTheLastStateAndTheFirstThatIsNot() {
        PressSheets x = Copies.of(4, "1", "2", "3");
        Check.due("0 and 2", x.changes(4, 0, 2), 1);
        Check.due("a 3", x.changes(4, 3, 0), UNKNOWN);
        Check.due("b 3", x.changes(4, 0, 3), UNKNOWN);
        Check.due("a -1", x.changes(4, -1, 0), UNKNOWN);
        Check.due("b -1", x.changes(4, 0, -1), UNKNOWN);
        Check.due("forme 6", x.changes(6, 0, 1), UNKNOWN);
        Check.due("forme -1", x.changes(-1, 0, 1), UNKNOWN);
        Check.due("a forme without states", x.changes(3, 0, 0), UNKNOWN);
        x.read(2, 4, 0, 1);
        Check.due("gone", x.changes(4, 0, 2), UNKNOWN);
    }

    // ---- promise 10

    private static void leastOfNoneAndOfOne() {
        PressSheets x = new PressSheets();
        Check.due("none", x.least(0), 0);
        x.ahead(0, 0, 1, true);
        x.ahead(0, 1, 0, true);
        Check.due("none, something told", x.least(0), 0);
        x.read(0, 0, 0, 1);
        Check.due("one", x.least(0), 0);
        x.read(1, 0, 0, 1);
        Check.due("one of two copies", x.least(0), 0);
        Check.due("forme 6", x.least(6), UNKNOWN);
        Check.due("forme -1", x.least(-1), UNKNOWN);
    }

    private static void leastOfNine() {
        Check.due("six changes each", Copies.of(5, NINE).least(5), 48);
        PressSheets x = Copies.of(5, "0", "1", "2", "3", "4", "5", "6", "7", "8");
        Check.due("one change each", x.least(5), 8);
    }

    /** Two states without a change would be one, so an order costs a change a step or more. */
    private static void leastOfNearStates() {
        PressSheets x = Copies.of(1, "1...", "2...", ".1..", ".2..");
        Check.due("copies by two", x.states(1), 2);
        Check.due("states 11 and 22", x.least(1), 2);
        x = Copies.of(2, "11", "12", "22", "23", "33");
        Check.due("a step a change", x.least(2), 4);
        Check.due("there and back", x.orders(2), 2);
    }

    private static void leastWithoutAnOrder() {
        PressSheets x = Copies.of(0, "1", "2", "3");
        x.ahead(0, 0, 1, true);
        x.ahead(0, 1, 2, true);
        Check.due("a line", x.least(0), 2);
        x.ahead(0, 2, 0, true);
        Check.due("a ring of three", x.least(0), NONE);
        x.ahead(0, 1, 2, false);
        Check.due("broken", x.least(0), 2);
    }

    // ---- promise 11

    private static void ordersOfNoneAndOfOne() {
        PressSheets x = new PressSheets();
        Check.due("no state", x.orders(5), 1);
        x.read(8, 5, 5, 9);
        Check.due("one state", x.orders(5), 1);
        x.read(7, 5, 5, 8);
        Check.due("two states", x.orders(5), 2);
        x.read(7, 5, 5, NONE);
        x.read(8, 5, 5, NONE);
        Check.due("no state again", x.orders(5), 1);
        Check.due("forme 6", x.orders(6), UNKNOWN);
        Check.due("forme -1", x.orders(-1), UNKNOWN);
    }

    private static void ordersOfNine() {
        PressSheets x = Copies.of(0, NINE);
        Check.due("all", x.orders(0), 362880);
        int left = 362880;
        for (int c = 1; c < 9; c++) {
            x.ahead(0, 0, c, true);
        }
        Check.due("0 is the first", x.orders(0), left / 9);
        for (int c = 1; c < 8; c++) {
            x.ahead(0, c, c + 1, true);
        }
        Check.due("a line", x.orders(0), 1);
        x.ahead(0, 8, 1, true);
        Check.due("none", x.orders(0), 0);
    }

    private static void ordersWithoutAnOrder() {
        PressSheets x = Copies.of(0, "1", "2", "3", "4");
        x.ahead(0, 3, 2, true);
        x.ahead(0, 2, 3, true);
        Check.due("two of four", x.orders(0), 0);
        x.read(3, 0, 0, 3);
        Check.due("2 and 3 are one state now", x.orders(0), 6);
    }

    private static void ordersCountOnlyTheLeast() {
        // 0 - 1 - 2 by one change each, 0 and 2 two apart.
        PressSheets x = Copies.of(0, "11", "12", "22");
        Check.due("two of six", x.orders(0), 2);
        Check.due("least", x.least(0), 2);
    }

    private static void ordersThatAreDearerForWhatIsTold() {
        PressSheets x = Copies.of(0, "11", "12", "22");
        x.ahead(0, 0, 1, true);
        x.ahead(0, 2, 1, true);
        Check.due("least", x.least(0), 3);
        Check.due("two", x.orders(0), 2);
        order("the first", x, 0, 0, 2, 1);
    }

    // ---- promise 12

    private static void firstAtBothEnds() {
        PressSheets x = Copies.of(5, NINE);
        Check.due("0", x.first(5, 0), 0);
        Check.due("8", x.first(5, 8), 8);
        Check.due("9", x.first(5, 9), NONE);
        Check.due("-1", x.first(5, -1), NONE);
        Check.due("the least int", x.first(5, Integer.MIN_VALUE), NONE);
        Check.due("the greatest int", x.first(5, Integer.MAX_VALUE), NONE);
        Check.due("NONE", x.first(5, NONE), NONE);
        x = Copies.of(5, "1", "2");
        Check.due("the last of two", x.first(5, 1), 1);
        Check.due("the third of two", x.first(5, 2), NONE);
        Check.due("forme 6", x.first(6, 0), UNKNOWN);
        Check.due("forme -1", x.first(-1, 0), UNKNOWN);
        Check.due("forme 6, and no such i", x.first(6, -1), UNKNOWN);
        Check.due("forme 6, and no such i", x.first(6, 9), UNKNOWN);
    }

    private static void firstOfNone() {
        order("no state", new PressSheets(), 0);
        order("one state", Copies.of(0, "1", "1"), 0, 0);
    }

    private static void firstWithoutAnOrder() {
        PressSheets x = Copies.of(0, "1", "2", "3");
        order("all orders", x, 0, 0, 1, 2);
        x.ahead(0, 0, 1, true);
        x.ahead(0, 1, 0, true);
        order("none", x, 0);
        x.ahead(0, 0, 1, false);
        order("again", x, 0, 1, 0, 2);
    }

    private static void firstIsByNumbersOfStates() {
        PressSheets x = Copies.of(0, "1", "2", "3", "4");
        x.ahead(0, 3, 0, true);
        order("3 ahead of 0: 1 can be the first", x, 0, 1, 2, 3, 0);
        x.ahead(0, 3, 1, true);
        order("and of 1", x, 0, 2, 3, 0, 1);
        x.ahead(0, 3, 2, true);
        order("and of 2", x, 0, 3, 0, 1, 2);
    }

    /** The first of the least orders, not the first that keeps what is told. */
    private static void firstIsOneOfTheLeast() {
        PressSheets x = Copies.of(0, "11", "22", "12");
        order("2 lies between", x, 0, 0, 2, 1);
        x.ahead(0, 2, 0, true);
        order("from the other end", x, 0, 1, 2, 0);
        x.ahead(0, 2, 1, true);
        order("both ends behind 2: one is far", x, 0, 2, 0, 1);
        Check.due("dearer", x.least(0), 3);
    }

    // ---- promise 13

    private static void beforeBothAreOne() {
        PressSheets x = Copies.of(0, "1", "2");
        Check.due("state 0", x.before(0, 0, 0), STATE);
        Check.due("state 1", x.before(0, 1, 1), STATE);
        Check.due("no state 2", x.before(0, 2, 2), UNKNOWN);
        Check.due("no state -1", x.before(0, -1, -1), UNKNOWN);
        Check.due("no forme", x.before(6, 1, 1), UNKNOWN);
        Check.due("no state at all", x.before(1, 0, 0), UNKNOWN);
    }

    private static void beforeAndBehindAreAll() {
        PressSheets x = Copies.of(0, "112", "121", "211", "222");
        int all = x.orders(0);
        for (int a = 0; a < 4; a++) {
            for (int b = 0; b < a; b++) {
                Check.due(a + " ahead of or behind " + b, x.before(0, a, b) + x.before(0, b, a), all);
            }
        }
        x.ahead(0, 3, 0, true);
        Check.due("told", x.before(0, 3, 0), x.orders(0));
        Check.due("against what is told", x.before(0, 0, 3), 0);
    }

    /** Orders that keep what is told, but cost more, are not of the least. */
    private static void beforeNotInDearerOrders() {
        PressSheets x = Copies.of(0, "11", "22", "12");
        x.ahead(0, 0, 1, true);
        Check.due("the one least order", x.orders(0), 1);
        Check.due("0, 2, 1", x.before(0, 0, 2), 1);
        Check.due("2, 0, 1 would cost more", x.before(0, 2, 0), 0);
        Check.due("2 ahead of 1", x.before(0, 2, 1), 1);
        Check.due("0, 1, 2 would cost more", x.before(0, 1, 2), 0);
    }

    private static void beforeWithoutAnOrder() {
        PressSheets x = Copies.of(0, "1", "2", "3");
        x.ahead(0, 0, 1, true);
        x.ahead(0, 1, 0, true);
        Check.due("0 and 1", x.before(0, 0, 1), 0);
        Check.due("1 and 0", x.before(0, 1, 0), 0);
        Check.due("0 and 2", x.before(0, 0, 2), 0);
        Check.due("both are one", x.before(0, 2, 2), STATE);
        Check.due("no state", x.before(0, 0, 3), UNKNOWN);
    }

    private static void beforeOfTheLastState() {
        PressSheets x = Copies.of(5, NINE);
        Check.due("8 and 0", x.before(5, 8, 0), 181440);
        Check.due("0 and 8", x.before(5, 0, 8), 181440);
        Check.due("9", x.before(5, 9, 0), UNKNOWN);
        Check.due("9", x.before(5, 0, 9), UNKNOWN);
        Check.due("-1", x.before(5, -1, 0), UNKNOWN);
        Check.due("-1", x.before(5, 0, -1), UNKNOWN);
        Check.due("orders are as they were", x.orders(5), 362880);
    }

    /** Questions of one forme between those of another: the answers of both stay. */
    private static void ordersOfOtherFormesStay() {
        PressSheets x = Copies.of(0, "11", "12", "22");
        x.read(0, 5, 0, 1);
        x.read(1, 5, 0, 2);
        x.ahead(5, 1, 0, true);
        for (int i = 0; i < 2; i++) {
            Check.due("forme 0", x.before(0, 0, 1), 1);
            Check.due("forme 5", x.before(5, 1, 0), 1);
            Check.due("forme 0", x.orders(0), 2);
            Check.due("forme 5", x.orders(5), 1);
            order("forme 0", x, 0, 0, 1, 2);
            order("forme 5", x, 5, 1, 0);
        }
    }
}
