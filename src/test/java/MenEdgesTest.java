/** Promises 29 to 38: each sentence that names a boundary case, with a test of its own. */
public final class MenEdgesTest {
    private static final int UNKNOWN = Check.UNKNOWN, OUTSIDE = Check.OUTSIDE, NONE = Check.NONE;

    public static void main(String[] args) {
        houseFromOneToFourMen();
        houseFromOneToTwelvePages();
        houseRefusesBoth();
        houseKeepsWhatWasTold();
        houseOfLessHeedsNotTheRest();
        habitAtEachCorner();
        habitOfMenThatAreNot();
        spellAtEachCorner();
        spellOfPagesThatAreNot();
        spellAllOfThem();
        changeFromNoneToNinetyNine();
        againstOfAnyForm();
        againstOfEachForm();
        againstOfAllWords();
        againstRefuses();
        settingOfNothing();
        settingOfOnePage();
        settingOfOneMan();
        settingOfTheMost();
        settingThatCostsNoChangeAheadOfPageZero();
        settingWhereChangeIsAsDear();
        settingOfTheGreatestChange();
        settingFollowsEachTelling();
        whoIsTheLeastPageByPage();
        whoOfTheLastPageAndTheFirstThatIsNot();
        sureOfOneMan();
        sureOfTheLastPageAndTheFirstThatIsNot();
        sureOnlyIfInAll();
        settingsFromOneToAll();
        settingsOfNoHabits();
        countOfEach();
        countRefuses();
        countOfHouse();
        Check.finish();
    }

    private static void men(String what, PressSheets x, int... want) {
        for (int p = 0; p < 12; p++) {
            Check.due(what + ": man of page " + p, x.who(p), p < want.length ? want[p] : UNKNOWN);
        }
    }

    private static void sure(String what, PressSheets x, int... want) {
        for (int p = 0; p < 12; p++) {
            Check.due(what + ": page " + p, x.sure(p), p < want.length ? want[p] : UNKNOWN);
        }
    }

    /** Man 0 has form 0, man 1 form 1; a page a number: so many words against man 0, or (below 0) man 1. */
    private static PressSheets pages(int... against) {
        PressSheets x = new PressSheets();
        x.house(2, against.length);
        x.habit(0, 0, 0);
        x.habit(1, 0, 1);
        for (int p = 0; p < against.length; p++) {
            x.spell(p, 0, against[p] > 0 ? 1 : 0, Math.abs(against[p]));
        }
        return x;
    }

    // ---- promise 29

    private static void houseFromOneToFourMen() {
        PressSheets x = new PressSheets();
        int was = 2;
        for (int v = 1; v <= 4; v++) {
            Check.due("to " + v, x.house(v, 1), was);
            Check.due("men", x.count(5), v);
            Check.due("pages", x.count(6), 1);
            Check.due("the last man", x.against(0, v - 1), 0);
            Check.due("no man behind him", x.against(0, v), UNKNOWN);
            was = v;
        }
        Check.due("0 men", x.house(0, 1), OUTSIDE);
        Check.due("5 men", x.house(5, 1), OUTSIDE);
        Check.due("-1 men", x.house(-1, 1), OUTSIDE);
        Check.due("NONE", x.house(NONE, 1), OUTSIDE);
        Check.due("4 stay", x.house(4, 1), 4);
    }

    private static void houseFromOneToTwelvePages() {
        PressSheets x = new PressSheets();
        for (int v = 1; v <= 12; v++) {
            Check.due("pages " + v, x.house(2, v), 2);
            Check.due("pages", x.count(6), v);
            Check.due("the last page", x.who(v - 1), 0);
            Check.due("no page behind it", x.who(v), UNKNOWN);
        }
        Check.due("0 pages", x.house(2, 0), OUTSIDE);
        Check.due("13 pages", x.house(2, 13), OUTSIDE);
        Check.due("-1 pages", x.house(2, -1), OUTSIDE);
        Check.due("NONE", x.house(2, NONE), OUTSIDE);
        Check.due("12 stay", x.count(6), 12);
    }

    /** One of both is as told, the other not: neither is changed. */
    private static void houseRefusesBoth() {
        PressSheets x = new PressSheets();
        Check.due("no men, pages that can be", x.house(0, 12), OUTSIDE);
        Check.due("pages stay", x.count(6), 4);
        Check.due("men that can be, no pages", x.house(4, 13), OUTSIDE);
        Check.due("men stay", x.count(5), 2);
        Check.due("neither", x.house(5, 0), OUTSIDE);
        Check.due("men", x.house(2, 4), 2);
        Check.due("pages", x.count(6), 4);
    }

    private static void houseKeepsWhatWasTold() {
        PressSheets x = new PressSheets();
        x.house(4, 12);
        x.habit(3, 5, 1);
        x.spell(11, 5, 0, 9);
        x.spell(11, 5, 1, 8);
        x.change(7);
        x.house(1, 1);
        Check.due("no man 3", x.habit(3, 5, 0), UNKNOWN);
        Check.due("no page 11", x.spell(11, 5, 0, 1), UNKNOWN);
        x.house(4, 12);
        Check.due("against", x.against(11, 3), 9);
        Check.due("habit", x.habit(3, 5, 1), 1);
        Check.due("form 0", x.spell(11, 5, 0, 9), 9);
        Check.due("form 1", x.spell(11, 5, 1, 8), 8);
        Check.due("change", x.change(7), 7);
    }

    private static void houseOfLessHeedsNotTheRest() {
        PressSheets x = pages(9, 9, 9, -9);
        Check.due("two men, four pages", x.setting(), 3);
        x.house(2, 3);
        Check.due("the last page is gone", x.setting(), 0);
        Check.due("one way", x.settings(), 1);
        x.house(1, 4);
        Check.due("man 1 is gone", x.setting(), 27);
        x.house(2, 4);
        Check.due("all again", x.setting(), 3);
    }

    // ---- promise 30

    private static void habitAtEachCorner() {
        PressSheets x = new PressSheets();
        x.house(4, 1);
        for (int man = 0; man <= 3; man += 3) {
            for (int w = 0; w <= 5; w += 5) {
                Check.due("any at first", x.habit(man, w, 0), NONE);
                Check.due("0", x.habit(man, w, 1), 0);
                Check.due("1", x.habit(man, w, 1), 1);
                Check.due("any again", x.habit(man, w, NONE), 1);
                Check.due("any", x.habit(man, w, NONE), NONE);
            }
        }
        x.habit(0, 0, 1);
        Check.due("form 2", x.habit(0, 0, 2), OUTSIDE);
        Check.due("form -1", x.habit(0, 0, -1), OUTSIDE);
        Check.due("word 6", x.habit(0, 6, 0), UNKNOWN);
        Check.due("word -1", x.habit(0, -1, 0), UNKNOWN);
        Check.due("man 4", x.habit(4, 0, 0), UNKNOWN);
        Check.due("man -1", x.habit(-1, 0, 0), UNKNOWN);
        Check.due("no man and no form", x.habit(4, 0, 2), UNKNOWN);
        Check.due("no word and no form", x.habit(0, 6, 2), UNKNOWN);
        Check.due("1 stays", x.habit(0, 0, 1), 1);
    }

    private static void habitOfMenThatAreNot() {
        PressSheets x = new PressSheets();
        Check.due("man 1 of two", x.habit(1, 0, 0), NONE);
        Check.due("man 2 of two", x.habit(2, 0, 0), UNKNOWN);
        x.house(1, 4);
        Check.due("man 1 of one", x.habit(1, 0, 1), UNKNOWN);
        x.house(3, 4);
        Check.due("man 1 of three, as he was", x.habit(1, 0, 0), 0);
        Check.due("man 2 of three", x.habit(2, 0, 0), NONE);
    }

    // ---- promise 31

    private static void spellAtEachCorner() {
        PressSheets x = new PressSheets();
        x.house(1, 12);
        for (int page = 0; page <= 11; page += 11) {
            for (int w = 0; w <= 5; w += 5) {
                for (int form = 0; form <= 1; form++) {
                    Check.due("0 at first", x.spell(page, w, form, 9), 0);
                    Check.due("9", x.spell(page, w, form, 0), 9);
                    Check.due("0", x.spell(page, w, form, 1), 0);
                }
            }
        }
        Check.due("times 10", x.spell(0, 0, 0, 10), OUTSIDE);
        Check.due("times -1", x.spell(0, 0, 0, -1), OUTSIDE);
        Check.due("times NONE", x.spell(0, 0, 0, NONE), OUTSIDE);
        Check.due("form 2", x.spell(0, 0, 2, 0), OUTSIDE);
        Check.due("form -1", x.spell(0, 0, -1, 0), OUTSIDE);
        Check.due("form NONE", x.spell(0, 0, NONE, 0), OUTSIDE);
        Check.due("word 6", x.spell(0, 6, 0, 0), UNKNOWN);
        Check.due("word -1", x.spell(0, -1, 0, 0), UNKNOWN);
        Check.due("page 12", x.spell(12, 0, 0, 0), UNKNOWN);
        Check.due("page -1", x.spell(-1, 0, 0, 0), UNKNOWN);
        Check.due("no page and no form", x.spell(12, 0, 2, 0), UNKNOWN);
        Check.due("no word and no times", x.spell(0, 6, 0, 10), UNKNOWN);
        Check.due("no form and no times", x.spell(0, 0, 2, 10), OUTSIDE);
        Check.due("1 stays", x.spell(0, 0, 0, 1), 1);
        Check.due("1 of the other form stays", x.spell(0, 0, 1, 1), 1);
        Check.due("1 of the last word stays", x.spell(0, 5, 1, 1), 1);
    }

    private static void spellOfPagesThatAreNot() {
        PressSheets x = new PressSheets();
        Check.due("page 3 of four", x.spell(3, 0, 0, 5), 0);
        Check.due("page 4 of four", x.spell(4, 0, 0, 5), UNKNOWN);
        x.house(2, 3);
        Check.due("page 3 of three", x.spell(3, 0, 0, 6), UNKNOWN);
        x.house(2, 5);
        Check.due("page 3 of five, as it was", x.spell(3, 0, 0, 5), 5);
        Check.due("page 4 of five", x.spell(4, 0, 0, 5), 0);
    }

    private static void spellAllOfThem() {
        PressSheets x = new PressSheets();
        x.house(4, 12);
        for (int i = 0; i < 144; i++) {
            x.spell(i / 12, i / 2 % 6, i % 2, i * 7 % 10);
        }
        for (int i = 0; i < 144; i++) {
            Check.due("of all, " + i, x.spell(i / 12, i / 2 % 6, i % 2, 0), i * 7 % 10);
        }
    }

    // ---- promise 32

    private static void changeFromNoneToNinetyNine() {
        PressSheets x = new PressSheets();
        Check.due("3 at first", x.change(0), 3);
        Check.due("0", x.change(99), 0);
        Check.due("99", x.change(99), 99);
        Check.due("-1", x.change(-1), OUTSIDE);
        Check.due("100", x.change(100), OUTSIDE);
        Check.due("NONE", x.change(NONE), OUTSIDE);
        Check.due("99 stays", x.change(3), 99);
    }

    // ---- promise 33

    private static void againstOfAnyForm() {
        PressSheets x = new PressSheets();
        x.spell(0, 0, 0, 9);
        x.spell(0, 0, 1, 9);
        Check.due("no habit", x.against(0, 0), 0);
        x.habit(0, 1, 0);
        Check.due("a habit of another word", x.against(0, 0), 0);
        x.habit(0, 0, 1);
        Check.due("a habit", x.against(0, 0), 9);
        x.habit(0, 0, NONE);
        Check.due("no more", x.against(0, 0), 0);
    }

    private static void againstOfEachForm() {
        PressSheets x = new PressSheets();
        x.spell(3, 5, 0, 2);
        x.spell(3, 5, 1, 7);
        x.habit(1, 5, 0);
        Check.due("habit 0: those in form 1", x.against(3, 1), 7);
        x.habit(1, 5, 1);
        Check.due("habit 1: those in form 0", x.against(3, 1), 2);
        x.spell(3, 5, 0, 0);
        Check.due("none", x.against(3, 1), 0);
    }

    private static void againstOfAllWords() {
        PressSheets x = new PressSheets();
        x.house(4, 12);
        for (int w = 0; w < 6; w++) {
            x.habit(3, w, w % 2);
            x.spell(11, w, 0, 9);
            x.spell(11, w, 1, 9);
            Check.due("words to " + w, x.against(11, 3), 9 * (w + 1));
        }
        Check.due("another man", x.against(11, 0), 0);
        Check.due("another page", x.against(10, 3), 0);
    }

    private static void againstRefuses() {
        PressSheets x = new PressSheets();
        Check.due("page 3, man 1", x.against(3, 1), 0);
        Check.due("page 4", x.against(4, 1), UNKNOWN);
        Check.due("page -1", x.against(-1, 1), UNKNOWN);
        Check.due("man 2", x.against(3, 2), UNKNOWN);
        Check.due("man -1", x.against(3, -1), UNKNOWN);
        x.house(4, 12);
        Check.due("page 11, man 3", x.against(11, 3), 0);
        Check.due("page 12", x.against(12, 3), UNKNOWN);
        Check.due("man 4", x.against(11, 4), UNKNOWN);
    }

    // ---- promise 34

    private static void settingOfNothing() {
        PressSheets x = new PressSheets();
        for (int m = 1; m <= 4; m++) {
            for (int p = 1; p <= 12; p++) {
                x.house(m, p);
                Check.due("nothing told, " + m + " and " + p, x.setting(), 0);
                Check.due("one man all through, " + m + " and " + p, x.settings(), m);
            }
        }
    }

    private static void settingOfOnePage() {
        PressSheets x = pages(9);
        Check.due("man 1: no change", x.setting(), 0);
        men("man 1", x, 1);
        x.habit(1, 0, 0);
        Check.due("against both", x.setting(), 9);
        men("the least", x, 0);
        Check.due("two ways", x.settings(), 2);
    }

    private static void settingOfOneMan() {
        PressSheets x = pages(9, -9, 9, -9);
        x.house(1, 4);
        Check.due("all that is against him", x.setting(), 18);
        men("man 0", x, 0, 0, 0, 0);
        Check.due("one way", x.settings(), 1);
        sure("one man", x, 1, 1, 1, 1);
    }

    private static void settingOfTheMost() {
        PressSheets x = new PressSheets();
        x.house(4, 12);
        x.change(99);
        for (int w = 0; w < 6; w++) {
            for (int m = 0; m < 4; m++) {
                x.habit(m, w, 0);
            }
            for (int p = 0; p < 12; p++) {
                x.spell(p, w, 1, 9);
            }
        }
        Check.due("all against all", x.setting(), 648);
        Check.due("one man all through", x.settings(), 4);
        x.change(0);
        Check.due("as dear", x.setting(), 648);
        Check.due("all settings", x.settings(), 16777216);
    }

    private static void settingThatCostsNoChangeAheadOfPageZero() {
        PressSheets x = pages(1, 1, 1, 1);
        x.change(99);
        Check.due("man 1 from the first page", x.setting(), 0);
        men("man 1", x, 1, 1, 1, 1);
    }

    private static void settingWhereChangeIsAsDear() {
        PressSheets x = pages(-9, 3);
        Check.due("3 against, or a change", x.setting(), 3);
        Check.due("both ways", x.settings(), 2);
        men("the least", x, 0, 0);
        sure("page 1 is not", x, 1, 0);
        x.change(2);
        Check.due("a change is cheaper", x.setting(), 2);
        men("a change", x, 0, 1);
        x.change(4);
        Check.due("a change is dearer", x.setting(), 3);
        men("no change", x, 0, 0);
        sure("no change", x, 1, 1);
    }

    private static void settingOfTheGreatestChange() {
        PressSheets x = pages(-9, 9);
        x.change(99);
        Check.due("no change", x.setting(), 9);
        men("the least", x, 0, 0);
        x.change(0);
        Check.due("changes cost nothing", x.setting(), 0);
        men("each his own", x, 0, 1);
    }

    /** Asked between tellings, each of which counts at once. */
    private static void settingFollowsEachTelling() {
        PressSheets x = new PressSheets();
        Check.due("nothing told", x.setting(), 0);
        x.habit(0, 5, 0);
        x.habit(1, 5, 0);
        Check.due("no words", x.setting(), 0);
        x.spell(3, 5, 1, 9);
        Check.due("words against both", x.setting(), 9);
        Check.due("both", x.settings(), 2);
        x.habit(1, 5, 1);
        Check.due("against man 0 alone", x.setting(), 0);
        men("man 1", x, 1, 1, 1, 1);
        x.spell(0, 5, 0, 9);
        Check.due("a change", x.setting(), 3);
        men("as late as can be", x, 0, 0, 0, 1);
        x.change(99);
        Check.due("no change", x.setting(), 9);
        Check.due("either", x.settings(), 2);
        x.house(2, 3);
        Check.due("page 3 is gone", x.setting(), 0);
        sure("man 0", x, 1, 1, 1);
    }

    // ---- promises 35 and 36

    private static void whoIsTheLeastPageByPage() {
        PressSheets x = pages(0, 0, 9, 0, 0);
        men("one man all through", x, 1, 1, 1, 1, 1);
        x.change(0);
        men("changes cost nothing", x, 0, 0, 1, 0, 0);
        x = pages(3, -9);
        men("0 at page 0 costs as little as a change", x, 0, 0);
        x = pages(9, 0, 0, -9);
        men("the change as early as can be", x, 1, 0, 0, 0);
        x = pages(-9, 0, 0, 9);
        men("the change as late as can be", x, 0, 0, 0, 1);
    }

    private static void whoOfTheLastPageAndTheFirstThatIsNot() {
        PressSheets x = new PressSheets();
        Check.due("page 3", x.who(3), 0);
        Check.due("page 4", x.who(4), UNKNOWN);
        Check.due("page -1", x.who(-1), UNKNOWN);
        x.house(4, 12);
        Check.due("page 11", x.who(11), 0);
        Check.due("page 12", x.who(12), UNKNOWN);
        x.house(4, 1);
        Check.due("page 0 of one", x.who(0), 0);
        Check.due("page 1 of one", x.who(1), UNKNOWN);
    }

    private static void sureOfOneMan() {
        PressSheets x = new PressSheets();
        x.house(1, 12);
        sure("one man", x, 1, 1, 1, 1, 1, 1, 1, 1, 1, 1, 1, 1);
        x.house(2, 12);
        sure("two alike", x, 0, 0, 0, 0, 0, 0, 0, 0, 0, 0, 0, 0);
    }

    private static void sureOfTheLastPageAndTheFirstThatIsNot() {
        PressSheets x = pages(0, 0, 0, 9);
        Check.due("page 3", x.sure(3), 1);
        Check.due("page 4", x.sure(4), UNKNOWN);
        Check.due("page -1", x.sure(-1), UNKNOWN);
        x.house(2, 3);
        Check.due("page 3 is gone", x.sure(3), UNKNOWN);
        Check.due("page 2 is not sure without it", x.sure(2), 0);
    }

    private static void sureOnlyIfInAll() {
        PressSheets x = pages(9, 0, -9);
        sure("the page between", x, 1, 0, 1);
        Check.due("two ways", x.settings(), 2);
        x.change(0);
        sure("changes cost nothing", x, 1, 0, 1);
        x = pages(1, 1);
        x.house(3, 2);
        x.habit(2, 0, 1);
        sure("men 1 and 2 alike", x, 0, 0);
        men("the lesser", x, 1, 1);
    }

    // ---- promise 37

    private static void settingsFromOneToAll() {
        PressSheets x = new PressSheets();
        x.house(1, 1);
        Check.due("one man, one page", x.settings(), 1);
        x.house(1, 12);
        Check.due("one man", x.settings(), 1);
        x.change(0);
        for (int m = 1; m <= 4; m++) {
            int all = 1;
            for (int p = 1; p <= 12; p++) {
                all *= m;
                x.house(m, p);
                Check.due("all, " + m + " and " + p, x.settings(), all);
            }
        }
    }

    private static void settingsOfNoHabits() {
        PressSheets x = new PressSheets();
        x.spell(0, 0, 0, 9);
        x.spell(0, 0, 1, 9);
        Check.due("words alone tell nothing", x.settings(), 2);
        Check.due("words alone cost nothing", x.setting(), 0);
    }

    // ---- promise 38

    private static void countOfEach() {
        PressSheets x = new PressSheets();
        int[] want = {0, 0, 0, 0, 0, 2, 4};
        counts("new", x, want);
        x.read(8, 5, 5, 0);
        want[0]++;
        counts("a reading", x, want);
        x.ahead(5, 8, 0, true);
        want[1]++;
        counts("one told ahead, though not in force", x, want);
        x.piece(15, 5, 1);
        x.piece(14, 5, 1);
        want[2]++;
        counts("a forme, by two pieces", x, want);
        x.sheet(5, 0);
        want[3]++;
        counts("a sheet", x, want);
        x.seen(5, 11, 0);
        want[4]++;
        counts("a book", x, want);
        x.seen(4, 11, 0);
        want[4]++;
        counts("the book in another forme", x, want);
        x.house(1, 12);
        want[5] = 1;
        want[6] = 12;
        counts("a house", x, want);
        x.read(8, 5, 5, NONE);
        x.ahead(5, 8, 0, false);
        x.piece(15, 5, NONE);
        x.piece(14, 5, NONE);
        x.seen(5, 11, NONE);
        x.seen(4, 11, NONE);
        counts("taken back, but for the sheet", x, 0, 0, 0, 1, 0, 1, 12);
    }

    private static void counts(String what, PressSheets x, int... want) {
        for (int i = 0; i < want.length; i++) {
            Check.due(what + ": count(" + i + ")", x.count(i), want[i]);
        }
    }

    private static void countRefuses() {
        PressSheets x = new PressSheets();
        Check.due("-1", x.count(-1), OUTSIDE);
        Check.due("7", x.count(7), OUTSIDE);
        Check.due("NONE", x.count(NONE), OUTSIDE);
        Check.due("the greatest int", x.count(Integer.MAX_VALUE), OUTSIDE);
        Check.due("the least int", x.count(Integer.MIN_VALUE), OUTSIDE);
    }

    private static void countOfHouse() {
        PressSheets x = new PressSheets();
        x.house(4, 1);
        counts("4 and 1", x, 0, 0, 0, 0, 0, 4, 1);
        Check.due("refused", x.house(5, 2), OUTSIDE);
        counts("4 and 1 stay", x, 0, 0, 0, 0, 0, 4, 1);
    }
}
