/**
 * "An object is used for at most 512 calls": all that can be read or told in
 * them, the 512th as right as the first, and questions that leave no trace.
 */
public final class LongUseTest {
    private static final int UNKNOWN = Check.UNKNOWN, OUTSIDE = Check.OUTSIDE, NONE = Check.NONE;

    public static void main(String[] args) {
        allReadings();
        allToldAhead();
        toldToTheLastCall();
        refusedToTheLastCall();
        askedToTheLastCall();
        questionsChangeNothing();
        Check.finish();
    }

    /** 324 readings, then questions up to call 512. */
    private static void allReadings() {
        PressSheets x = new PressSheets();
        for (int i = 0; i < 324; i++) {
            Check.due("reading " + i, x.read(i % 9, i / 54, i / 9 % 6, i % 9), NONE);
        }
        Check.due("all", x.count(0), 324);
        for (int f = 0; f < 6; f++) {
            Check.due("states", x.states(f), 9);
            Check.due("least", x.least(f), 48);
            Check.due("orders", x.orders(f), 362880);
            for (int n = 1; n <= 9; n++) {
                Check.due("slips", x.slips(f, n), 54 - 6 * n);
                Check.due("first", x.first(f, n - 1), n - 1);
                Check.due("letter", x.letter(f, n - 1, 5), n - 1);
            }
        }
        Check.due("another reading of the last", x.read(8, 5, 5, 9), 8);
        for (int i = 0; i < 5; i++) {
            Check.due("still", x.count(0), 324);
        }
        Check.due("call 512", x.changes(5, 8, 0), 6);
    }

    /** 9 readings, then 432 told ahead: each of two ahead of the other, so there is no order. */
    private static void allToldAhead() {
        PressSheets x = new PressSheets();
        for (int c = 0; c < 9; c++) {
            x.read(c, 5, 0, c);
        }
        for (int f = 0; f < 6; f++) {
            for (int i = 0; i < 81; i++) {
                if (i / 9 != i % 9) {
                    Check.due("told", x.ahead(f, i / 9, i % 9, true), 0);
                }
            }
        }
        Check.due("all", x.count(1), 432);
        Check.due("no order", x.orders(5), 0);
        Check.due("no order", x.least(5), NONE);
        for (int i = 0; i < 36; i++) {
            Check.due("none is the first", x.first(5, i % 9), NONE);
        }
        for (int c = 1; c < 9; c++) {
            Check.due("no more", x.ahead(5, c, 0, false), 1);
        }
        Check.due("all but eight", x.count(1), 424);
        Check.due("still no order", x.orders(5), 0);
        Check.due("before", x.before(5, 0, 1), 0);
    }

    private static void toldToTheLastCall() {
        PressSheets x = Copies.of(0, "1", "2");
        for (int call = 3; call < 512; call++) {
            int letter = call % 10;
            x.read(2, 0, 0, letter);
        }
        Check.due("call 512: letter 1", x.state(0, 2), 0);
        x = new PressSheets();
        for (int call = 1; call < 511; call++) {
            x.piece(call % 16, call % 6, call % 2);
        }
        x.presses(6);
        Check.due("call 512: all formes", x.count(2), 6);
        x = new PressSheets();
        for (int call = 1; call < 512; call++) {
            x.size(call % 12 + 1);
        }
        Check.due("call 512: size", x.size(1), 511 % 12 + 1);
        x = new PressSheets();
        for (int call = 1; call < 512; call++) {
            x.change(call % 100);
        }
        Check.due("call 512: change", x.change(0), 11);
    }

    private static void refusedToTheLastCall() {
        PressSheets x = new PressSheets();
        for (int i = 0; i < 100; i++) {
            Check.due("read", x.read(9, 0, 0, 0), UNKNOWN);
            Check.due("piece", x.piece(0, 0, 2), OUTSIDE);
            Check.due("sheet", x.sheet(0, 10), OUTSIDE);
            Check.due("house", x.house(5, 12), OUTSIDE);
            Check.due("spell", x.spell(4, 0, 0, 1), UNKNOWN);
        }
        int[] want = {0, 0, 0, 0, 0, 2, 4};
        for (int what = 0; what < want.length; what++) {
            Check.due("nothing told", x.count(what), want[what]);
        }
        Check.due("a reading is taken", x.read(8, 0, 0, 0), NONE);
        Check.due("a piece is taken", x.piece(0, 0, 1), NONE);
        Check.due("a sheet is taken", x.sheet(0, 9), 1);
        Check.due("a house is taken", x.house(4, 12), 2);
        Check.due("call 512", x.spell(4, 0, 0, 1), 0);
    }

    private static void askedToTheLastCall() {
        PressSheets x = Copies.of(0, "11", "12", "22");
        x.house(2, 3);
        x.habit(0, 0, 0);
        x.spell(0, 0, 1, 9);
        x.piece(0, 0, 0);
        x.piece(0, 1, 1);
        for (int i = 0; i < 71; i++) {
            Check.due("before", x.before(0, 0, 2), 1);
            Check.due("orders", x.orders(0), 2);
            Check.due("slips", x.slips(0, 1), 2);
            Check.due("day", x.day(2, 1), 1);
            Check.due("beside", x.beside(2, 0, 1), 0);
            Check.due("setting", x.setting(), 0);
            Check.due("settings", x.settings(), 1);
        }
        Check.due("call 509", x.who(2), 1);
    }

    /** Asked of something and asked of nothing: what is asked leaves no trace. */
    private static void questionsChangeNothing() {
        Script s = new Script().call("read", 0, 0, 0, 1).call("read", 1, 0, 0, 2).call("read", 8, 0, 1, 3)
            .call("ahead", 0, 1, 0, 1).call("piece", 0, 0, 0).call("piece", 0, 5, 1).call("piece", 1, 2, 1)
            .call("sheet", 0, 1).call("sheet", 0, 2).call("seen", 0, 0, 2).call("size", 2)
            .call("habit", 0, 0, 1).call("spell", 0, 0, 0, 4);
        Picture before = Picture.of(s);
        Call[] questions = {
            Call.of("agree", 0, 0, 1), Call.of("states", 0), Call.of("state", 0, 8), Call.of("letter", 0, 0, 1),
            Call.of("slips", 0, 1), Call.of("changes", 0, 0, 1), Call.of("least", 0), Call.of("orders", 0),
            Call.of("first", 0, 0), Call.of("before", 0, 0, 1), Call.of("before", 0, 1, 0), Call.of("share", 0, 5),
            Call.of("must", 0, 5), Call.of("ring"), Call.of("plans", 6), Call.of("day", 1, 0), Call.of("day", 6, 0),
            Call.of("beside", 6, 0, 2), Call.of("fewest"), Call.of("turns", 0), Call.of("turned", 0, 0),
            Call.of("bound", 0, 0, 0), Call.of("against", 0, 0), Call.of("setting"), Call.of("who", 3),
            Call.of("sure", 3), Call.of("settings"), Call.of("count", 0), Call.of("count", 6)};
        Script all = s;
        for (Call q : questions) {
            before.same("behind " + q, Picture.of(s.and(q)));
            all = all.and(q);
        }
        before.same("behind all", Picture.of(all));
    }
}
