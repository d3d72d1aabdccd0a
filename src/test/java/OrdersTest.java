/** Promises 8 to 13, and of promises 1 and 38 what is of orders. */
public final class OrdersTest {
    private static final int UNKNOWN = Check.UNKNOWN, STATE = Check.STATE, NONE = Check.NONE;

    public static void main(String[] args) {
        newObject();
        aheadAnswersHowItWas();
        aheadRefuses();
        aheadOnlyInForce();
        changesOfStates();
        leastOrders();
        firstOfThem();
        beforeInLeastOnly();
        noOrder();
        oneState();
        ordersFollowWhatIsTold();
        nineStates();
        refusals();
        Check.finish();
    }

    private static void order(String what, PressSheets x, int forme, int... want) {
        for (int i = 0; i < want.length; i++) {
            Check.due(what + ": first(" + forme + ", " + i + ")", x.first(forme, i), want[i]);
        }
        Check.due(what + ": behind the last", x.first(forme, want.length), NONE);
    }

    private static void newObject() {
        PressSheets x = new PressSheets();
        for (int f = 0; f < 6; f++) {
            Check.due("new least", x.least(f), 0);
            Check.due("new orders", x.orders(f), 1);
            order("new", x, f);
            Check.due("new changes", x.changes(f, 0, 0), UNKNOWN);
            Check.due("new before", x.before(f, 0, 1), UNKNOWN);
        }
        Check.due("new count(1)", x.count(1), 0);
    }

    private static void aheadAnswersHowItWas() {
        PressSheets x = new PressSheets();
        Check.due("was not", x.ahead(5, 0, 8, true), 0);
        Check.due("was", x.ahead(5, 0, 8, true), 1);
        Check.due("the other way was not", x.ahead(5, 8, 0, true), 0);
        Check.due("both count", x.count(1), 2);
        Check.due("no more", x.ahead(5, 0, 8, false), 1);
        Check.due("no more again", x.ahead(5, 0, 8, false), 0);
        Check.due("another forme", x.ahead(4, 8, 0, false), 0);
        Check.due("one counts", x.count(1), 1);
    }

    private static void aheadRefuses() {
        PressSheets x = new PressSheets();
        for (int bad : Check.NOWHERE) {
            Check.due("forme", x.ahead(bad, 0, 1, true), UNKNOWN);
            Check.due("a", x.ahead(0, bad, 1, true), UNKNOWN);
            Check.due("b", x.ahead(0, 0, bad, true), UNKNOWN);
            Check.due("both are one, and no copy", x.ahead(0, bad, bad, true), UNKNOWN);
            Check.due("both are one, no forme", x.ahead(bad, 1, 1, true), UNKNOWN);
        }
        Check.due("forme 6", x.ahead(6, 0, 1, true), UNKNOWN);
        Check.due("copy 9", x.ahead(0, 9, 1, true), UNKNOWN);
        Check.due("both are one", x.ahead(0, 3, 3, true), STATE);
        Check.due("both are one", x.ahead(0, 3, 3, false), STATE);
        Check.due("nothing told", x.count(1), 0);
    }

    private static void aheadOnlyInForce() {
        PressSheets x = Copies.of(0, "1", "2", "1");
        x.ahead(0, 2, 0, true);
        Check.due("of one state", x.orders(0), 2);
        x.ahead(0, 5, 0, true);
        x.ahead(0, 0, 5, true);
        Check.due("not looked at", x.orders(0), 2);
        x.read(5, 0, 1, 4);
        Check.due("looked at, of state 0", x.orders(0), 2);
        x.read(5, 0, 0, 3);
        Check.due("both ways", x.orders(0), 0);
        x.ahead(0, 0, 5, false);
        order("5 ahead of 0", x, 0, 1, 2, 0);
        Check.due("told of are all", x.count(1), 2);
    }

    private static void changesOfStates() {
        PressSheets x = Copies.of(0, "12....", "13.4..", "2..5..", ".3....");
        Check.due("states", x.states(0), 3);
        Check.due("0 and 1", x.changes(0, 0, 1), 1);
        Check.due("0 and 2: only where both have letters", x.changes(0, 0, 2), 1);
        Check.due("1 and 2", x.changes(0, 1, 2), 2);
        Check.due("2 and 1", x.changes(0, 2, 1), 2);
        Check.due("with itself", x.changes(0, 1, 1), 0);
    }

    private static void leastOrders() {
        // A chain 0 - 2 - 1: each step one change, the ends two apart.
        PressSheets x = Copies.of(2, "11", "22", "12");
        Check.due("least", x.least(2), 2);
        Check.due("orders", x.orders(2), 2);
        order("chain", x, 2, 0, 2, 1);
        x.ahead(2, 0, 2, true);
        Check.due("one is left", x.orders(2), 1);
        x.ahead(2, 1, 2, true);
        Check.due("dearer", x.least(2), 3);
        Check.due("two of those", x.orders(2), 2);
        order("dearer", x, 2, 0, 1, 2);
    }

    private static void firstOfThem() {
        PressSheets x = Copies.of(0, "1", "2", "3");
        Check.due("all", x.orders(0), 6);
        order("all", x, 0, 0, 1, 2);
        x.ahead(0, 2, 0, true);
        Check.due("half", x.orders(0), 3);
        order("half", x, 0, 1, 2, 0);
        x.ahead(0, 2, 1, true);
        order("two told", x, 0, 2, 0, 1);
        Check.due("less than 0", x.first(0, -1), NONE);
        Check.due("far behind", x.first(0, Integer.MAX_VALUE), NONE);
        Check.due("far ahead", x.first(0, Integer.MIN_VALUE), NONE);
        Check.due("9", x.first(0, 9), NONE);
    }

    private static void beforeInLeastOnly() {
        PressSheets x = Copies.of(0, "11", "22", "12");
        Check.due("0 ahead of 1", x.before(0, 0, 1), 1);
        Check.due("2 ahead of 0", x.before(0, 2, 0), 1);
        x.ahead(0, 0, 1, true);
        Check.due("told", x.before(0, 0, 1), 1);
        Check.due("against what is told", x.before(0, 1, 0), 0);
        Check.due("2 is never the first of the least", x.before(0, 2, 0), 0);
        Check.due("both are one", x.before(0, 2, 2), STATE);
        Check.due("still the least", x.least(0), 2);
    }

    private static void noOrder() {
        PressSheets x = Copies.of(1, "1", "2", "3");
        x.ahead(1, 0, 1, true);
        x.ahead(1, 1, 2, true);
        order("line", x, 1, 0, 1, 2);
        x.ahead(1, 2, 0, true);
        Check.due("least", x.least(1), NONE);
        Check.due("orders", x.orders(1), 0);
        order("none", x, 1);
        Check.due("before", x.before(1, 0, 1), 0);
        Check.due("both are one", x.before(1, 0, 0), STATE);
        x.read(2, 1, 0, NONE);
        Check.due("2 is gone", x.orders(1), 1);
    }

    private static void oneState() {
        PressSheets x = Copies.of(3, "1", "1");
        Check.due("least", x.least(3), 0);
        Check.due("orders", x.orders(3), 1);
        order("one", x, 3, 0);
        Check.due("before", x.before(3, 0, 0), STATE);
        Check.due("no other", x.before(3, 0, 1), UNKNOWN);
    }

    private static void ordersFollowWhatIsTold() {
        PressSheets x = Copies.of(0, "1", "2");
        Check.due("two", x.orders(0), 2);
        x.read(2, 0, 0, 3);
        Check.due("six", x.orders(0), 6);
        Check.due("refused", x.read(2, 0, 0, 11), Check.OUTSIDE);
        Check.due("still six", x.orders(0), 6);
        x.read(2, 0, 0, 2);
        Check.due("two again", x.orders(0), 2);
        x.ahead(0, 1, 0, true);
        order("1 ahead", x, 0, 1, 0);
        x.ahead(0, 1, 0, false);
        order("no more", x, 0, 0, 1);
    }

    private static void nineStates() {
        PressSheets x = Copies.of(4, "000000", "111111", "222222", "333333", "444444", "555555", "666666", "777777", "888888");
        Check.due("least", x.least(4), 48);
        Check.due("orders", x.orders(4), 362880);
        order("nine", x, 4, 0, 1, 2, 3, 4, 5, 6, 7, 8);
        Check.due("before", x.before(4, 0, 8), 181440);
        for (int c = 1; c < 9; c++) {
            x.ahead(4, c, c - 1, true);
        }
        Check.due("one", x.orders(4), 1);
        order("backwards", x, 4, 8, 7, 6, 5, 4, 3, 2, 1, 0);
        Check.due("before, told", x.before(4, 8, 0), 1);
        Check.due("before, against", x.before(4, 0, 8), 0);
    }

    private static void refusals() {
        PressSheets x = Copies.of(0, "1", "2");
        for (int bad : Check.NOWHERE) {
            Check.due("changes forme", x.changes(bad, 0, 1), UNKNOWN);
            Check.due("changes a", x.changes(0, bad, 1), UNKNOWN);
            Check.due("changes b", x.changes(0, 0, bad), UNKNOWN);
            Check.due("least", x.least(bad), UNKNOWN);
            Check.due("orders", x.orders(bad), UNKNOWN);
            Check.due("first", x.first(bad, 0), UNKNOWN);
            Check.due("first, both", x.first(bad, -1), UNKNOWN);
            Check.due("before forme", x.before(bad, 0, 1), UNKNOWN);
            Check.due("before a", x.before(0, bad, 1), UNKNOWN);
            Check.due("before b", x.before(0, 0, bad), UNKNOWN);
            Check.due("before both", x.before(0, bad, bad), UNKNOWN);
        }
        Check.due("state 2", x.changes(0, 0, 2), UNKNOWN);
        Check.due("state 2", x.before(0, 2, 2), UNKNOWN);
        Check.due("forme 6", x.least(6), UNKNOWN);
        Check.due("forme 6", x.orders(6), UNKNOWN);
        Check.due("forme 6", x.first(6, 0), UNKNOWN);
    }
}
