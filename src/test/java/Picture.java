import java.util.ArrayList;
import java.util.List;

/**
 * All that an object shows: every question with every number that it takes, and
 * what was read, told and seen, by putting it away and back again. An object is
 * used for 512 calls at most, so a picture is taken from several that are alike.
 */
final class Picture {
    private static final int MOST_CALLS = 512;
    private static final int NONE = Check.NONE;
    private static final List<Call> ASKED = new ArrayList<>();
    /** Calls that tell something and answer what was: the last number is what they tell. */
    private static final List<int[]> KEPT_NUMBERS = new ArrayList<>();
    private static final List<String> KEPT_NAMES = new ArrayList<>();

    static {
        for (int f = 0; f < 6; f++) {
            askOfForme(f);
            keepOfForme(f);
        }
        for (String name : new String[] {"ring", "fewest", "setting", "settings"}) {
            ask(name);
        }
        for (int d = 1; d <= 6; d++) {
            ask("plans", d);
        }
        for (int page = 0; page < 12; page++) {
            askOfPage(page);
        }
        for (int what = 0; what < 7; what++) {
            ask("count", what);
        }
        keep("presses", 1);
        keep("size", 1);
        keep("change", 0);
        for (int word = 0; word < 6; word++) {
            keepOfWord(word);
        }
    }

    private final List<String> texts = new ArrayList<>();
    private final List<Integer> answers = new ArrayList<>();
    private Script script;
    private PressSheets now;
    private int calls;

    private Picture(Script script) {
        this.script = script;
        calls = MOST_CALLS;
        for (Call c : ASKED) {
            make(1);
            put(c.toString(), c.on(now));
        }
        for (int i = 0; i < KEPT_NAMES.size(); i++) {
            takeAndPutBack(KEPT_NAMES.get(i), KEPT_NUMBERS.get(i));
        }
        lookAtAllOfHouse();
    }

    static Picture of(Script script) {
        return new Picture(script);
    }

    int size() {
        return answers.size();
    }

    /** Both show the same. */
    void same(String what, Picture other) {
        for (int i = 0; i < answers.size(); i++) {
            Check.due(what + ": " + texts.get(i), other.answers.get(i), answers.get(i));
        }
    }

    private static void askOfForme(int f) {
        for (String name : new String[] {"states", "least", "orders", "turns"}) {
            ask(name, f);
        }
        for (int a = 0; a < 9; a++) {
            ask("state", f, a);
            ask("slips", f, a + 1);
            ask("first", f, a);
            for (int b = 0; b < 9; b++) {
                ask("agree", f, a, b);
                ask("changes", f, a, b);
                ask("before", f, a, b);
            }
            for (int p = 0; p < 6; p++) {
                ask("letter", f, a, p);
            }
        }
        for (int g = 0; g < 6; g++) {
            ask("share", f, g);
            ask("must", f, g);
            ask("day", g + 1, f);
            for (int d = 1; d <= 6; d++) {
                ask("beside", d, f, g);
            }
        }
        for (int b = 0; b < 12; b++) {
            ask("turned", f, b);
            ask("bound", f, b, 0);
            ask("bound", f, b, 1);
        }
    }

    private static void keepOfForme(int f) {
        for (int a = 0; a < 9; a++) {
            for (int p = 0; p < 6; p++) {
                keep("read", a, f, p, NONE);
            }
            for (int b = 0; b < 9; b++) {
                if (a != b) {
                    keep("ahead", f, a, b, 0);
                }
            }
        }
        for (int piece = 0; piece < 16; piece++) {
            keep("piece", piece, f, NONE);
        }
        for (int book = 0; book < 12; book++) {
            keep("seen", f, book, NONE);
        }
    }

    private static void askOfPage(int page) {
        ask("who", page);
        ask("sure", page);
        for (int man = 0; man < 4; man++) {
            ask("against", page, man);
        }
    }

    private static void keepOfWord(int word) {
        for (int man = 0; man < 4; man++) {
            keep("habit", man, word, NONE);
        }
        for (int page = 0; page < 12; page++) {
            keep("spell", page, word, 0, 0);
            keep("spell", page, word, 1, 0);
        }
    }

    private static void ask(String name, int... numbers) {
        ASKED.add(Call.of(name, numbers));
    }

    private static void keep(String name, int... numbers) {
        KEPT_NAMES.add(name);
        KEPT_NUMBERS.add(numbers);
    }

    private void make(int need) {
        if (calls + need > MOST_CALLS) {
            now = script.play();
            calls = script.length();
        }
        calls += need;
    }

    private void put(String text, int answer) {
        texts.add(text);
        answers.add(answer);
    }

    private void takeAndPutBack(String name, int[] numbers) {
        make(2);
        Call take = Call.of(name, numbers);
        int was = take.on(now);
        put(take.toString(), was);
        int[] back = numbers.clone();
        back[back.length - 1] = was;
        Call.of(name, back).on(now);
    }

    /** What was told of men and pages that the house has not (any more) is kept too. */
    private void lookAtAllOfHouse() {
        script = script.and(Call.of("house", 4, 12));
        calls = MOST_CALLS;
        for (int i = 0; i < KEPT_NAMES.size(); i++) {
            if (KEPT_NAMES.get(i).equals("habit") || KEPT_NAMES.get(i).equals("spell")) {
                takeAndPutBack(KEPT_NAMES.get(i), KEPT_NUMBERS.get(i));
            }
        }
    }
}
