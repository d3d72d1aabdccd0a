import java.util.Random;

/** Many runs of calls, wrong ones among them, held against the plain model. */
public final class ModelTest {
    private static final int NONE = Check.NONE;

    private final Random dice;
    private final PressSheets x = new PressSheets();
    private final Model m = new Model();
    private final String run;
    private final int copies;
    private final int letters;
    private final int formes;
    private final int mostSettings;

    private ModelTest(long seed) {
        dice = new Random(seed);
        run = "run " + seed + ": ";
        copies = 3 + dice.nextInt(5);
        letters = 2 + dice.nextInt(3);
        formes = 1 + dice.nextInt(2);
        mostSettings = 5000;
    }

    public static void main(String[] args) {
        for (int part = 1; part <= 5; part++) {
            for (long seed = 0; seed < 60; seed++) {
                new ModelTest(part * 1000 + seed).go(part, 300);
            }
        }
        for (long seed = 0; seed < 60; seed++) {
            new ModelTest(9000 + seed).go(0, 512);
        }
        Check.finish();
    }

    private void go(int part, int calls) {
        for (int i = 0; i < calls; i++) {
            int now = part == 0 ? 1 + dice.nextInt(5) : part;
            switch (now) {
                case 1: readings(); break;
                case 2: orders(); break;
                case 3: days(); break;
                case 4: heaps(); break;
                default: men(); break;
            }
            if (dice.nextInt(12) == 0) {
                int what = num(7);
                due("count(" + what + ")", x.count(what), m.count(what));
            }
        }
    }

    /** A number from 0 to limit - 1, and now and then one that is not. */
    private int num(int limit) {
        int r = dice.nextInt(60);
        if (r == 0) return -1;
        if (r == 1) return limit;
        if (r == 2) return Check.NOWHERE[dice.nextInt(Check.NOWHERE.length)];
        return dice.nextInt(limit);
    }

    private int numOf(int limit, int often) {
        return dice.nextInt(20) == 0 ? num(limit) : dice.nextInt(often);
    }

    private void due(String call, int got, int want) {
        Check.due(run + call, got, want);
    }

    private void readings() {
        int f = numOf(6, formes);
        int a = numOf(9, copies);
        int b = numOf(9, copies);
        int p = num(6);
        int n = 1 + num(9);
        switch (dice.nextInt(9)) {
            case 0: due("agree(" + f + ", " + a + ", " + b + ")", x.agree(f, a, b), m.agree(f, a, b)); break;
            case 1: due("states(" + f + ")", x.states(f), m.states(f)); break;
            case 2: due("state(" + f + ", " + a + ")", x.state(f, a), m.state(f, a)); break;
            case 3: due("letter(" + f + ", " + a + ", " + p + ")", x.letter(f, a, p), m.letter(f, a, p)); break;
            case 4: due("slips(" + f + ", " + n + ")", x.slips(f, n), m.slips(f, n)); break;
            default: read(f, a, p); break;
        }
    }

    private void read(int f, int a, int p) {
        int k = dice.nextInt(5) == 0 ? NONE : numOf(10, letters);
        due("read(" + a + ", " + f + ", " + p + ", " + k + ")", x.read(a, f, p, k), m.read(a, f, p, k));
    }

    private void orders() {
        int f = numOf(6, formes);
        int a = numOf(9, copies);
        int b = numOf(9, copies);
        int p = num(6);
        boolean is = dice.nextInt(3) != 0;
        switch (dice.nextInt(12)) {
            case 0: due("changes(" + f + ", " + a + ", " + b + ")", x.changes(f, a, b), m.changes(f, a, b)); break;
            case 1: due("least(" + f + ")", x.least(f), m.least(f)); break;
            case 2: due("orders(" + f + ")", x.orders(f), m.orders(f)); break;
            case 3: due("first(" + f + ", " + a + ")", x.first(f, a), m.first(f, a)); break;
            case 4: due("before(" + f + ", " + a + ", " + b + ")", x.before(f, a, b), m.before(f, a, b)); break;
            case 5: due("ahead(" + f + ", " + a + ", " + b + ", " + is + ")", x.ahead(f, a, b, is), m.ahead(f, a, b, is)); break;
            case 6: due("state(" + f + ", " + a + ")", x.state(f, a), m.state(f, a)); break;
            default: read(f, a, p); break;
        }
    }

    private void days() {
        int p = numOf(16, 5);
        int a = num(6);
        int b = num(6);
        int d = 1 + num(6);
        int how = dice.nextInt(3) != 0 ? NONE : num(2);
        switch (dice.nextInt(12)) {
            case 0: due("share(" + a + ", " + b + ")", x.share(a, b), m.share(a, b)); break;
            case 1: due("must(" + a + ", " + b + ")", x.must(a, b), m.must(a, b)); break;
            case 2: due("ring()", x.ring(), m.ring()); break;
            case 3: due("presses(" + d + ")", x.presses(d), m.presses(d)); break;
            case 4: due("plans(" + d + ")", x.plans(d), m.plans(d)); break;
            case 5: due("day(" + d + ", " + a + ")", x.day(d, a), m.day(d, a)); break;
            case 6: due("beside(" + d + ", " + a + ", " + b + ")", x.beside(d, a, b), m.beside(d, a, b)); break;
            case 7: due("fewest()", x.fewest(), m.fewest()); break;
            default: due("piece(" + p + ", " + a + ", " + how + ")", x.piece(p, a, how), m.piece(p, a, how)); break;
        }
    }

    private void heaps() {
        int f = numOf(6, formes);
        int b = num(12);
        int k = numOf(10, letters);
        int v = 1 + num(12);
        boolean turned = dice.nextBoolean();
        switch (dice.nextInt(8)) {
            case 0: due("size(" + v + ")", x.size(v), m.size(v)); break;
            case 1: due("turns(" + f + ")", x.turns(f), m.turns(f)); break;
            case 2: due("turned(" + f + ", " + b / 2 + ")", x.turned(f, b / 2), m.turned(f, b / 2)); break;
            case 3: due("bound(" + f + ", " + b + ", " + turned + ")", x.bound(f, b, turned), m.bound(f, b, turned)); break;
            case 4: due("seen(" + f + ", " + b + ", NONE)", x.seen(f, b, NONE), m.seen(f, b, NONE)); break;
            case 5: due("seen(" + f + ", " + b + ", " + k + ")", x.seen(f, b, k), m.seen(f, b, k)); break;
            default: due("sheet(" + f + ", " + k + ")", x.sheet(f, k), m.sheet(f, k)); break;
        }
    }

    private void men() {
        int man = num(4);
        int page = num(m.pages);
        int w = num(6);
        int form = dice.nextInt(6) == 0 ? NONE : num(2);
        int t = num(10);
        switch (dice.nextInt(12)) {
            case 0: moveHouse(); break;
            case 1: due("change(" + t + ")", x.change(t), m.change(t)); break;
            case 2: due("against(" + page + ", " + man + ")", x.against(page, man), m.against(page, man)); break;
            case 3: due("setting()", x.setting(), m.setting()); break;
            case 4: due("who(" + page + ")", x.who(page), m.who(page)); break;
            case 5: due("sure(" + page + ")", x.sure(page), m.sure(page)); break;
            case 6: due("settings()", x.settings(), m.settings()); break;
            case 7:
            case 8: due("habit(" + man + ", " + w + ", " + form + ")", x.habit(man, w, form), m.habit(man, w, form)); break;
            default: spell(page, w, form, t); break;
        }
    }

    private void spell(int page, int w, int form, int t) {
        due("spell(" + page + ", " + w + ", " + form + ", " + t + ")", x.spell(page, w, form, t), m.spell(page, w, form, t));
    }

    /** Only houses whose settings the model can go through. */
    private void moveHouse() {
        int men = 1 + num(4);
        int pages = 1 + num(12);
        boolean real = men >= 1 && men <= 4 && pages >= 1 && pages <= 12;
        if (!real || Math.pow(men, pages) <= mostSettings) {
            due("house(" + men + ", " + pages + ")", x.house(men, pages), m.house(men, pages));
        }
    }
}
