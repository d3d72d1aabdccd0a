/** Promises 29 to 38, and of promise 1 what is of men. */
public final class MenTest {
    private static final int UNKNOWN = Check.UNKNOWN, OUTSIDE = Check.OUTSIDE, NONE = Check.NONE;

    public static void main(String[] args) {
        newObject();
        houseAnswersMen();
        houseKeepsWhatWasTold();
        habitAnswersWhatItWas();
        spellAnswersWhatItWas();
        changeAnswersWhatItWas();
        againstCountsWords();
        bestSetting();
        leastManOfLikeOnes();
        sureInAll();
        settingFollowsWhatIsTold();
        greatHouse();
        refusals();
        counts();
        Check.finish();
    }

    private static void men(String what, PressSheets x, int... want) {
        for (int p = 0; p < want.length; p++) {
            Check.due(what + ": who(" + p + ")", x.who(p), want[p]);
        }
        Check.due(what + ": no more pages", x.who(want.length), UNKNOWN);
    }

    private static void newObject() {
        PressSheets x = new PressSheets();
        Check.due("new setting", x.setting(), 0);
        Check.due("new settings", x.settings(), 2);
        men("new", x, 0, 0, 0, 0);
        Check.due("new sure", x.sure(0), 0);
        Check.due("new against", x.against(3, 1), 0);
        Check.due("new change", x.change(3), 3);
        Check.due("new men", x.count(5), 2);
        Check.due("new pages", x.count(6), 4);
        Check.due("new habit", x.habit(1, 5, NONE), NONE);
        Check.due("new times", x.spell(3, 5, 1, 0), 0);
    }

    private static void houseAnswersMen() {
        PressSheets x = new PressSheets();
        Check.due("2 at first", x.house(4, 12), 2);
        Check.due("4", x.house(1, 1), 4);
        for (int bad : Check.NOWHERE) {
            Check.due("men", x.house(bad, 4), OUTSIDE);
            Check.due("pages", x.house(2, bad), OUTSIDE);
        }
        Check.due("no men", x.house(0, 1), OUTSIDE);
        Check.due("5 men", x.house(5, 1), OUTSIDE);
        Check.due("no pages", x.house(1, 0), OUTSIDE);
        Check.due("13 pages", x.house(1, 13), OUTSIDE);
        Check.due("men stay", x.count(5), 1);
        Check.due("pages stay", x.count(6), 1);
        Check.due("settings of one", x.settings(), 1);
        Check.due("sure of one", x.sure(0), 1);
    }

    private static void houseKeepsWhatWasTold() {
        PressSheets x = new PressSheets();
        x.house(4, 12);
        x.habit(3, 5, 1);
        x.spell(11, 5, 0, 9);
        x.house(1, 1);
        Check.due("no man 3", x.habit(3, 5, 0), UNKNOWN);
        Check.due("no page 11", x.spell(11, 5, 0, 8), UNKNOWN);
        x.house(4, 12);
        Check.due("habit stays", x.habit(3, 5, 1), 1);
        Check.due("times stay", x.spell(11, 5, 0, 9), 9);
    }

    private static void habitAnswersWhatItWas() {
        PressSheets x = new PressSheets();
        Check.due("none", x.habit(1, 5, 1), NONE);
        Check.due("1", x.habit(1, 5, 0), 1);
        Check.due("0", x.habit(1, 5, NONE), 0);
        Check.due("none again", x.habit(1, 5, 1), NONE);
        for (int bad : Check.NOWHERE) {
            Check.due("man", x.habit(bad, 5, 0), UNKNOWN);
            Check.due("word", x.habit(1, bad, 0), UNKNOWN);
            Check.due("man ahead of form", x.habit(bad, 5, 7), UNKNOWN);
            if (bad != NONE) {
                Check.due("form", x.habit(1, 5, bad), OUTSIDE);
            }
        }
        Check.due("man 2 of two", x.habit(2, 0, 0), UNKNOWN);
        Check.due("word 6", x.habit(0, 6, 0), UNKNOWN);
        Check.due("form 2", x.habit(1, 5, 2), OUTSIDE);
        Check.due("1 stays", x.habit(1, 5, 1), 1);
    }

    private static void spellAnswersWhatItWas() {
        PressSheets x = new PressSheets();
        Check.due("0 at first", x.spell(3, 5, 1, 9), 0);
        Check.due("9", x.spell(3, 5, 1, 4), 9);
        Check.due("the other form", x.spell(3, 5, 0, 1), 0);
        for (int bad : Check.NOWHERE) {
            Check.due("page", x.spell(bad, 5, 1, 0), UNKNOWN);
            Check.due("word", x.spell(3, bad, 1, 0), UNKNOWN);
            Check.due("form", x.spell(3, 5, bad, 0), OUTSIDE);
            Check.due("times", x.spell(3, 5, 1, bad), OUTSIDE);
            Check.due("page ahead of form", x.spell(bad, 5, bad, bad), UNKNOWN);
        }
        Check.due("page 4 of four", x.spell(4, 0, 0, 0), UNKNOWN);
        Check.due("word 6", x.spell(0, 6, 0, 0), UNKNOWN);
        Check.due("form 2", x.spell(3, 5, 2, 0), OUTSIDE);
        Check.due("10 times", x.spell(3, 5, 1, 10), OUTSIDE);
        Check.due("4 stays", x.spell(3, 5, 1, 4), 4);
        Check.due("1 stays", x.spell(3, 5, 0, 1), 1);
    }

    private static void changeAnswersWhatItWas() {
        PressSheets x = new PressSheets();
        Check.due("3 at first", x.change(99), 3);
        for (int bad : Check.NOWHERE) {
            Check.due("change", x.change(bad), OUTSIDE);
        }
        Check.due("100", x.change(100), OUTSIDE);
        Check.due("99 stays", x.change(0), 99);
        Check.due("0", x.change(0), 0);
    }

    private static void againstCountsWords() {
        PressSheets x = new PressSheets();
        x.spell(1, 0, 0, 4);
        x.spell(1, 0, 1, 3);
        x.spell(1, 2, 0, 2);
        Check.due("any form", x.against(1, 0), 0);
        x.habit(0, 0, 0);
        Check.due("form 1 is against", x.against(1, 0), 3);
        x.habit(0, 0, 1);
        Check.due("form 0 is against", x.against(1, 0), 4);
        x.habit(0, 2, 1);
        Check.due("two words", x.against(1, 0), 6);
        Check.due("another page", x.against(0, 0), 0);
        Check.due("another man", x.against(1, 1), 0);
    }

    /** Man 0 has form 0, man 1 form 1; a page a number: so many words against man 0, or (below 0) man 1. */
    private static PressSheets pages(int... against) {
        PressSheets x = new PressSheets();
        x.house(2, against.length);
        x.habit(0, 0, 0);
        x.habit(1, 0, 1);
        for (int p = 0; p < against.length; p++) {
            x.spell(p, 0, against[p] > 0 ? 1 : 0, Math.abs(against[p]));
        }
        return x;
    }

    private static void bestSetting() {
        PressSheets x = pages(-5, 2, 2, -5);
        Check.due("stays with one", x.setting(), 4);
        men("stays with one", x, 0, 0, 0, 0);
        x.change(1);
        Check.due("changes twice", x.setting(), 2);
        men("changes twice", x, 0, 1, 1, 0);
        Check.due("one way", x.settings(), 1);
        x.change(2);
        Check.due("either", x.setting(), 4);
        Check.due("two ways", x.settings(), 2);
        men("either", x, 0, 0, 0, 0);
        x.change(0);
        Check.due("changes cost nothing", x.setting(), 0);
        x = pages(5, -1);
        Check.due("the first page has none ahead", x.setting(), 1);
        men("the first page has none ahead", x, 1, 1);
    }

    private static void leastManOfLikeOnes() {
        PressSheets x = pages(0, 5, 0, -5, 0);
        Check.due("one change", x.setting(), 3);
        Check.due("at two places", x.settings(), 2);
        men("page by page", x, 1, 1, 0, 0, 0);
        x.change(0);
        Check.due("any for three pages", x.settings(), 8);
        men("any for three pages", x, 0, 1, 0, 0, 0);
    }

    private static void sureInAll() {
        PressSheets x = pages(0, 5, 0, -5, 0);
        Check.due("page 0", x.sure(0), 1);
        Check.due("page 1", x.sure(1), 1);
        Check.due("page 2", x.sure(2), 0);
        Check.due("page 3", x.sure(3), 1);
        Check.due("page 4", x.sure(4), 1);
        x.change(0);
        Check.due("page 0, changes cost nothing", x.sure(0), 0);
        Check.due("page 1, changes cost nothing", x.sure(1), 1);
    }

    private static void settingFollowsWhatIsTold() {
        PressSheets x = pages(9, 9);
        men("man 1", x, 1, 1);
        x.habit(0, 0, NONE);
        men("both", x, 0, 0);
        Check.due("both", x.settings(), 2);
        x.spell(1, 0, 0, 1);
        Check.due("against man 1", x.settings(), 1);
        Check.due("refused", x.spell(1, 0, 0, 10), OUTSIDE);
        Check.due("still", x.settings(), 1);
        x.house(1, 3);
        men("one man", x, 0, 0, 0);
        x.house(3, 1);
        Check.due("two of three", x.settings(), 3);
    }

    private static void greatHouse() {
        PressSheets x = new PressSheets();
        x.house(4, 12);
        Check.due("one man all through", x.settings(), 4);
        x.change(0);
        Check.due("all settings", x.settings(), 16777216);
        Check.due("cost", x.setting(), 0);
        x.change(99);
        for (int p = 0; p < 12; p++) {
            for (int w = 0; w < 6; w++) {
                x.spell(p, w, p % 2, 9);
                for (int man = 0; man < 4; man++) {
                    x.habit(man, w, 0);
                }
            }
        }
        Check.due("all against", x.setting(), 6 * 54);
        x.change(0);
        Check.due("as much", x.setting(), 6 * 54);
        for (int w = 0; w < 6; w++) {
            x.habit(3, w, 1);
        }
        Check.due("none against", x.setting(), 0);
        Check.due("three for each even page", x.settings(), 729);
        men("by turns", x, 0, 3, 0, 3, 0, 3, 0, 3, 0, 3, 0, 3);
        Check.due("even", x.sure(10), 0);
        Check.due("odd", x.sure(11), 1);
    }

    private static void refusals() {
        PressSheets x = new PressSheets();
        for (int bad : Check.NOWHERE) {
            Check.due("against page", x.against(bad, 0), UNKNOWN);
            Check.due("against man", x.against(0, bad), UNKNOWN);
            Check.due("who", x.who(bad), UNKNOWN);
            Check.due("sure", x.sure(bad), UNKNOWN);
            Check.due("count", x.count(bad), OUTSIDE);
        }
        Check.due("page 4 of four", x.against(4, 0), UNKNOWN);
        Check.due("man 2 of two", x.against(0, 2), UNKNOWN);
        Check.due("page 4 of four", x.who(4), UNKNOWN);
        Check.due("page 4 of four", x.sure(4), UNKNOWN);
        Check.due("count 7", x.count(7), OUTSIDE);
    }

    private static void counts() {
        PressSheets x = new PressSheets();
        x.read(0, 0, 0, 0);
        x.read(8, 5, 5, 0);
        x.ahead(3, 1, 2, true);
        x.piece(0, 1, 0);
        x.piece(0, 2, 0);
        x.piece(0, 3, 1);
        x.sheet(0, 0);
        x.sheet(0, 0);
        x.sheet(5, 0);
        x.sheet(5, 0);
        x.seen(0, 0, 0);
        x.seen(5, 0, 0);
        x.seen(5, 1, 0);
        x.seen(5, 2, 0);
        x.seen(5, 3, 0);
        x.house(3, 7);
        int[] want = {2, 1, 3, 4, 5, 3, 7};
        for (int what = 0; what < want.length; what++) {
            Check.due("count(" + what + ")", x.count(what), want[what]);
        }
    }
}
