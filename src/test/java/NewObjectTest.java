/** Promise 1, "Nothing is read, seen, told": every question to a new object, and each "at first" of the Terms. */
public final class NewObjectTest {
    private static final int UNKNOWN = Check.UNKNOWN, STATE = Check.STATE, NONE = Check.NONE;

    public static void main(String[] args) {
        for (int f = 0; f < 6; f++) {
            readingsOf(f);
            ordersOf(f);
            heapsOf(f);
            readOf(f);
            aheadOf(f);
        }
        typeAndDays();
        pieces();
        seen();
        men();
        habitsAndTimes();
        firstNumbers();
        counts();
        objectsAreApart();
        Check.finish();
    }

    private static void due(int got, int want, String call, int... numbers) {
        Check.due("new: " + Call.of(call, numbers), got, want);
    }

    private static void readingsOf(int f) {
        PressSheets x = new PressSheets();
        due(x.states(f), 0, "states", f);
        for (int a = 0; a < 9; a++) {
            due(x.state(f, a), NONE, "state", f, a);
            due(x.slips(f, a + 1), 0, "slips", f, a + 1);
            for (int b = 0; b < 9; b++) {
                due(x.agree(f, a, b), 1, "agree", f, a, b);
            }
            for (int p = 0; p < 6; p++) {
                due(x.letter(f, a, p), UNKNOWN, "letter", f, a, p);
            }
        }
    }

    private static void ordersOf(int f) {
        PressSheets x = new PressSheets();
        due(x.least(f), 0, "least", f);
        due(x.orders(f), 1, "orders", f);
        for (int a = 0; a < 9; a++) {
            due(x.first(f, a), NONE, "first", f, a);
            for (int b = 0; b < 9; b++) {
                due(x.changes(f, a, b), UNKNOWN, "changes", f, a, b);
                due(x.before(f, a, b), UNKNOWN, "before", f, a, b);
            }
        }
    }

    private static void heapsOf(int f) {
        PressSheets x = new PressSheets();
        due(x.turns(f), 1, "turns", f);
        for (int i = 0; i < 12; i++) {
            due(x.turned(f, i), UNKNOWN, "turned", f, i);
            due(x.bound(f, i, false), NONE, "bound", f, i, 0);
            due(x.bound(f, i, true), NONE, "bound", f, i, 1);
        }
        due(x.sheet(f, 0), 1, "sheet", f, 0);
    }

    private static void readOf(int f) {
        PressSheets x = new PressSheets();
        for (int c = 0; c < 9; c++) {
            for (int p = 0; p < 6; p++) {
                due(x.read(c, f, p, 0), NONE, "read", c, f, p, 0);
            }
        }
    }

    private static void aheadOf(int f) {
        PressSheets x = new PressSheets();
        for (int a = 0; a < 9; a++) {
            for (int b = 0; b < 9; b++) {
                due(x.ahead(f, a, b, true), a == b ? STATE : 0, "ahead", f, a, b, 1);
            }
        }
    }

    private static void typeAndDays() {
        PressSheets x = new PressSheets();
        due(x.ring(), 0, "ring");
        due(x.fewest(), 1, "fewest");
        for (int a = 0; a < 6; a++) {
            due(x.plans(a + 1), 1, "plans", a + 1);
            for (int b = 0; b < 6; b++) {
                due(x.share(a, b), 0, "share", a, b);
                due(x.must(a, b), 0, "must", a, b);
                due(x.day(b + 1, a), NONE, "day", b + 1, a);
                for (int d = 1; d <= 6; d++) {
                    due(x.beside(d, a, b), STATE, "beside", d, a, b);
                }
            }
        }
    }

    private static void pieces() {
        PressSheets x = new PressSheets();
        for (int p = 0; p < 16; p++) {
            for (int f = 0; f < 6; f++) {
                due(x.piece(p, f, 0), NONE, "piece", p, f, 0);
            }
        }
    }

    private static void seen() {
        PressSheets x = new PressSheets();
        for (int f = 0; f < 6; f++) {
            for (int b = 0; b < 12; b++) {
                due(x.seen(f, b, 0), NONE, "seen", f, b, 0);
            }
        }
    }

    private static void men() {
        PressSheets x = new PressSheets();
        due(x.setting(), 0, "setting");
        due(x.settings(), 2, "settings");
        for (int page = 0; page < 12; page++) {
            boolean there = page < 4;
            due(x.who(page), there ? 0 : UNKNOWN, "who", page);
            due(x.sure(page), there ? 0 : UNKNOWN, "sure", page);
            for (int man = 0; man < 4; man++) {
                due(x.against(page, man), there && man < 2 ? 0 : UNKNOWN, "against", page, man);
            }
        }
    }

    /** Those of men and pages that are told of later are as at first too. */
    private static void habitsAndTimes() {
        PressSheets x = new PressSheets();
        due(x.house(4, 12), 2, "house", 4, 12);
        for (int w = 0; w < 6; w++) {
            for (int man = 0; man < 4; man++) {
                due(x.habit(man, w, 0), NONE, "habit", man, w, 0);
            }
            for (int page = 0; page < 12; page++) {
                due(x.spell(page, w, 0, 9), 0, "spell", page, w, 0, 9);
                due(x.spell(page, w, 1, 9), 0, "spell", page, w, 1, 9);
            }
        }
    }

    private static void firstNumbers() {
        Check.due("new: 2 presses", new PressSheets().presses(6), 2);
        Check.due("new: size 4", new PressSheets().size(12), 4);
        Check.due("new: 2 men", new PressSheets().house(4, 12), 2);
        Check.due("new: change 3", new PressSheets().change(99), 3);
    }

    private static void counts() {
        int[] want = {0, 0, 0, 0, 0, 2, 4};
        PressSheets x = new PressSheets();
        for (int what = 0; what < want.length; what++) {
            due(x.count(what), want[what], "count", what);
        }
    }

    /** What is told to one object is not told to one that is made behind it, nor to one ahead of it. */
    private static void objectsAreApart() {
        PressSheets ahead = new PressSheets();
        PressSheets x = new PressSheets();
        x.read(0, 0, 0, 1);
        x.read(1, 0, 0, 2);
        x.ahead(0, 1, 0, true);
        x.piece(0, 0, 0);
        x.presses(1);
        x.sheet(0, 1);
        x.size(1);
        x.seen(0, 0, 1);
        x.house(4, 12);
        x.habit(0, 0, 1);
        x.spell(0, 0, 0, 9);
        x.change(0);
        for (PressSheets y : new PressSheets[] {ahead, new PressSheets()}) {
            Check.due("apart: states", y.states(0), 0);
            Check.due("apart: readings", y.count(0), 0);
            Check.due("apart: ahead", y.count(1), 0);
            Check.due("apart: formes", y.count(2), 0);
            Check.due("apart: sheets", y.count(3), 0);
            Check.due("apart: books", y.count(4), 0);
            Check.due("apart: pages", y.count(6), 4);
            Check.due("apart: presses", y.presses(2), 2);
            Check.due("apart: size", y.size(4), 4);
            Check.due("apart: change", y.change(3), 3);
            Check.due("apart: against", y.against(0, 0), 0);
            Check.due("apart: men", y.house(2, 4), 2);
        }
        Check.due("its own: states", x.states(0), 2);
        Check.due("its own: first", x.first(0, 0), 1);
    }
}
