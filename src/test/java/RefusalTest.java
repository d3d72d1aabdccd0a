import java.util.ArrayList;
import java.util.List;
import java.util.Set;

/**
 * "REFUSALS, of several the first that a call names" and "What is refused changes
 * nothing", for every call: each number just outside of both its ends and far
 * outside, alone and together with others, on an object that has nothing, one
 * that has something of all, and one that is full.
 */
public final class RefusalTest {
    private static final int UNKNOWN = Check.UNKNOWN, OUTSIDE = Check.OUTSIDE, STATE = Check.STATE, NONE = Check.NONE;

    /** The numbers that a call takes at one of its places, and what it answers to others. */
    private record Range(int code, int least, int most, boolean none) {
        boolean takes(int v) {
            return v >= least && v <= most || none && v == NONE;
        }
    }

    private static final Range COPY = new Range(UNKNOWN, 0, 8, false);
    private static final Range FORME = new Range(UNKNOWN, 0, 5, false);
    private static final Range PLACE = new Range(UNKNOWN, 0, 5, false);
    private static final Range LETTER = new Range(OUTSIDE, 0, 9, true);
    private static final Range STATES = new Range(OUTSIDE, 1, 9, false);
    private static final Range TRUTH = new Range(STATE, 0, 1, false);
    private static final Range ANY = new Range(STATE, Integer.MIN_VALUE, Integer.MAX_VALUE, false);
    private static final Range PIECE = new Range(UNKNOWN, 0, 15, false);
    private static final Range HOW = new Range(OUTSIDE, 0, 1, true);
    private static final Range PRESSES = new Range(OUTSIDE, 1, 6, false);
    private static final Range DAYS = new Range(OUTSIDE, 1, 6, false);
    private static final Range KIND = new Range(OUTSIDE, 0, 9, false);
    private static final Range KIND_OR_NONE = new Range(OUTSIDE, 0, 9, true);
    private static final Range SIZE = new Range(OUTSIDE, 1, 12, false);
    private static final Range BOOK = new Range(UNKNOWN, 0, 11, false);
    private static final Range MEN = new Range(OUTSIDE, 1, 4, false);
    private static final Range PAGES = new Range(OUTSIDE, 1, 12, false);
    private static final Range WORD = new Range(UNKNOWN, 0, 5, false);
    private static final Range HABIT = new Range(OUTSIDE, 0, 1, true);
    private static final Range FORM = new Range(OUTSIDE, 0, 1, false);
    private static final Range TIMES = new Range(OUTSIDE, 0, 9, false);
    private static final Range CHANGE = new Range(OUTSIDE, 0, 99, false);
    private static final Range WHAT = new Range(OUTSIDE, 0, 6, false);

    /** Behind these a picture is taken for each wrong number, behind questions for some. */
    private static final Set<String> TELLING = Set.of(
        "read", "ahead", "piece", "presses", "sheet", "size", "seen", "house", "habit", "spell", "change");

    private final String name;
    private final Script script;
    private final Picture before;
    private int tried;

    private RefusalTest(String name, Script script) {
        this.name = name;
        this.script = script;
        before = Picture.of(script);
    }

    public static void main(String[] args) {
        new RefusalTest("new", new Script()).allCalls(0, 0, 2, 4);
        RefusalTest some = new RefusalTest("some", someOfAll());
        some.allCalls(3, 2, 3, 7);
        some.statesOfSome();
        RefusalTest full = new RefusalTest("full", fullOfSheets());
        full.allCalls(9, 12, 4, 12);
        full.statesOfFull();
        Check.finish();
    }

    /** Three states in formes 0 and 5, six sheets there, formes 0, 1 and 5 told of. */
    private static Script someOfAll() {
        Script s = new Script();
        for (int f = 0; f < 6; f += 5) {
            s.call("read", 0, f, 0, 1).call("read", 1, f, 0, 2).call("read", 2, f, 0, 3).call("read", 8, f, 5, 9);
            s.call("read", 1, f, 1, 4).call("read", 0, f, 1, 4).call("ahead", f, 1, 0, 1).call("ahead", f, 8, 7, 1);
            for (int kind = 1; kind <= 6; kind++) {
                s.call("sheet", f, kind);
            }
            s.call("seen", f, 0, 4).call("seen", f, 11, 0);
        }
        s.call("piece", 0, 0, 0).call("piece", 0, 5, 1).call("piece", 15, 1, 1);
        s.call("house", 4, 12).call("habit", 3, 5, 1).call("spell", 11, 5, 0, 9).call("house", 3, 7);
        s.call("habit", 0, 0, 0).call("habit", 2, 5, 1).call("spell", 0, 0, 1, 9).call("spell", 6, 5, 0, 3);
        s.call("presses", 3).call("size", 5).call("change", 8);
        return asked(s);
    }

    /** Nine states and twelve sheets in formes 0 and 5, all formes told of, the greatest house. */
    private static Script fullOfSheets() {
        Script s = new Script().call("house", 4, 12).call("size", 1).call("presses", 6).call("change", 99);
        for (int f = 0; f < 6; f++) {
            s.call("piece", 15, f, f == 0 ? 0 : 1);
        }
        for (int f = 0; f < 6; f += 5) {
            for (int c = 0; c < 9; c++) {
                s.call("read", c, f, 5, c);
            }
            s.call("ahead", f, 8, 0, 1);
            for (int i = 0; i < 12; i++) {
                s.call("sheet", f, i % 10).call("seen", f, i, i % 10);
            }
        }
        for (int w = 0; w < 6; w++) {
            s.call("habit", 3, w, 1).call("spell", 11, w, 0, 9);
        }
        return asked(s);
    }

    /** What was asked ahead of a refusal must be answered so behind it. */
    private static Script asked(Script s) {
        return s.call("states", 0).call("least", 0).call("first", 5, 0).call("slips", 0, 1)
            .call("plans", 6).call("day", 6, 0).call("turns", 0).call("setting").call("who", 0);
    }

    private void allCalls(int states, int heaps, int men, int pages) {
        Range state = new Range(UNKNOWN, 0, states - 1, false);
        Range heap = new Range(UNKNOWN, 0, heaps - 1, false);
        Range man = new Range(UNKNOWN, 0, men - 1, false);
        Range page = new Range(UNKNOWN, 0, pages - 1, false);
        sweep("read", COPY, FORME, PLACE, LETTER);
        sweep("agree", FORME, COPY, COPY);
        sweep("states", FORME);
        sweep("state", FORME, COPY);
        sweep("letter", FORME, state, PLACE);
        sweep("slips", FORME, STATES);
        sweep("ahead", FORME, COPY, COPY, TRUTH);
        sweep("changes", FORME, state, state);
        sweep("least", FORME);
        sweep("orders", FORME);
        sweep("first", FORME, ANY);
        sweep("before", FORME, state, state);
        sweep("piece", PIECE, FORME, HOW);
        sweep("share", FORME, FORME);
        sweep("must", FORME, FORME);
        sweep("presses", PRESSES);
        sweep("plans", DAYS);
        sweep("day", DAYS, FORME);
        sweep("beside", DAYS, FORME, FORME);
        sweep("sheet", FORME, KIND);
        sweep("size", SIZE);
        sweep("seen", FORME, BOOK, KIND_OR_NONE);
        sweep("turns", FORME);
        sweep("turned", FORME, heap);
        sweep("bound", FORME, BOOK, TRUTH);
        sweep("house", MEN, PAGES);
        sweep("habit", man, WORD, HABIT);
        sweep("spell", page, WORD, FORM, TIMES);
        sweep("change", CHANGE);
        sweep("against", page, man);
        sweep("who", page);
        sweep("sure", page);
        sweep("count", WHAT);
        Check.holds(name + ": refusals were tried", tried > 500);
    }

    /** Every choice of places that are wrong, each with every wrong number. */
    private void sweep(String call, Range... ranges) {
        for (int wrong = 1; wrong < 1 << ranges.length; wrong++) {
            for (int turn = 0; turn < wrongNumbers(ranges[0]).size(); turn++) {
                int[] numbers = new int[ranges.length];
                for (int i = 0; i < ranges.length; i++) {
                    numbers[i] = (wrong >> i & 1) != 0 ? wrongNumber(ranges[i], turn) : rightNumber(ranges[i], turn);
                }
                boolean look = Integer.bitCount(wrong) == 1 && (turn < 2 || TELLING.contains(call));
                tryIt(Call.of(call, numbers), dueTo(ranges, numbers), look);
            }
        }
        if (isTaken(ranges)) {
            takenAtBothEnds(call, ranges);
        }
    }

    /** UNKNOWN is named ahead of OUTSIDE by every call that names both; 0: not refused for its numbers. */
    private static int dueTo(Range[] ranges, int[] numbers) {
        int due = 0;
        for (int i = 0; i < ranges.length; i++) {
            if (!ranges[i].takes(numbers[i]) && due != UNKNOWN) {
                due = ranges[i].code();
            }
        }
        return due;
    }

    private void tryIt(Call call, int due, boolean look) {
        if (due == 0) {
            return;
        }
        tried++;
        Check.due(name + ": " + call, call.on(script.play()), due);
        if (look) {
            before.same(name + ": behind " + call, Picture.of(script.and(call)));
        }
    }

    private static boolean isTaken(Range[] ranges) {
        for (Range r : ranges) {
            if (r.most() < r.least()) {
                return false;
            }
        }
        return true;
    }

    private void takenAtBothEnds(String call, Range[] ranges) {
        for (int i = 0; i < ranges.length; i++) {
            for (int end = 0; end < 3; end++) {
                int[] numbers = new int[ranges.length];
                for (int j = 0; j < ranges.length; j++) {
                    numbers[j] = rightNumber(ranges[j], j);
                }
                numbers[i] = end == 0 ? ranges[i].least() : ranges[i].most();
                if (end == 2 && ranges[i].none()) {
                    numbers[i] = NONE;
                }
                int got = Call.of(call, numbers).on(script.play());
                Check.holds(name + ": " + Call.of(call, numbers) + " is taken", got != UNKNOWN && got != OUTSIDE);
            }
        }
    }

    private static List<Integer> wrongNumbers(Range r) {
        List<Integer> all = new ArrayList<>();
        int[] tries = {r.least() - 1, r.most() + 1, Integer.MIN_VALUE, Integer.MAX_VALUE, NONE, UNKNOWN, OUTSIDE, STATE,
            NONE - 1, NONE + 1, r.least() + 32, r.least() + 64, r.least() + 256, r.least() + 65536, r.least() - 65536,
            r.least() + Integer.MIN_VALUE, -r.most() - 1};
        for (int v : tries) {
            if (!r.takes(v)) {
                all.add(v);
            }
        }
        return all;
    }

    /** A range that takes all has none: then one that is taken, which dueTo sees. */
    private static int wrongNumber(Range r, int turn) {
        List<Integer> all = wrongNumbers(r);
        if (r == TRUTH || all.isEmpty()) {
            return 1;
        }
        return all.get(turn % all.size());
    }

    /** Both ends by turns; in a range that is empty there is none. */
    private static int rightNumber(Range r, int turn) {
        return r == ANY ? 0 : turn % 2 == 0 || r.most() < r.least() ? r.least() : r.most();
    }

    private void refused(int due, String call, int... numbers) {
        tryIt(Call.of(call, numbers), due, true);
    }

    /** STATE is named last: a number that is not taken is answered ahead of it. */
    private void statesOfSome() {
        refused(STATE, "ahead", 0, 0, 0, 1);
        refused(STATE, "ahead", 5, 8, 8, 0);
        refused(UNKNOWN, "ahead", 6, 8, 8, 1);
        refused(UNKNOWN, "ahead", 0, 9, 9, 1);
        refused(UNKNOWN, "ahead", 0, -1, -1, 1);
        refused(STATE, "before", 0, 0, 0);
        refused(STATE, "before", 5, 2, 2);
        refused(UNKNOWN, "before", 0, 3, 3);
        refused(UNKNOWN, "before", 6, 0, 0);
        refused(UNKNOWN, "before", 0, -1, -1);
        refused(STATE, "beside", 1, 0, 2);
        refused(STATE, "beside", 6, 2, 0);
        refused(STATE, "beside", 6, 2, 3);
        refused(STATE, "beside", 6, 2, 2);
        refused(OUTSIDE, "beside", 7, 2, 2);
        refused(OUTSIDE, "beside", 0, 0, 2);
        refused(UNKNOWN, "beside", 1, 2, 6);
        refused(UNKNOWN, "beside", 0, -1, 2);
    }

    private void statesOfFull() {
        refused(STATE, "sheet", 0, 0);
        refused(STATE, "sheet", 5, 9);
        refused(OUTSIDE, "sheet", 0, 10);
        refused(OUTSIDE, "sheet", 5, -1);
        refused(OUTSIDE, "sheet", 5, NONE);
        refused(UNKNOWN, "sheet", 6, 10);
        refused(UNKNOWN, "sheet", -1, 0);
    }
}
