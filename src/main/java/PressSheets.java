import java.util.Arrays;

/**
 * Sheets corrected as they print: states of formes, their orders, pieces of
 * type and the days they tell of, heaps of sheets, and the men who set the
 * pages. The words in the comments are those of DOC.md.
 */
public final class PressSheets {
    public static final int UNKNOWN = -900001, OUTSIDE = -900002, STATE = -900003, NONE = -900009;

    private static final int COPIES = 9, FORMES = 6, PLACES = 6, LETTERS = 10;
    private static final int COPY_SETS = 1 << COPIES;
    private static final int PIECES = 16, DAYS = 6, MOST_PRESSES = 6;
    private static final int FORME_SETS = 1 << FORMES;
    private static final int SHEETS = 12, BOOKS = 12, KINDS = 10, MOST_SIZE = 12;
    private static final int MEN = 4, PAGES = 12, WORDS = 6, FORMS = 2;
    private static final int TIMES = 10, MOST_CHANGE = 99;

    private final Forme[] formes;
    private final SlipCounter slipCounter;
    private final OrderFinder orderFinder;
    private final Type type;
    private final Planner planner;
    private final Heaps heaps;
    private final House workers;

    public PressSheets() {
        formes = new Forme[FORMES];
        for (int f = 0; f < FORMES; f++) {
            formes[f] = new Forme();
        }
        slipCounter = new SlipCounter();
        orderFinder = new OrderFinder();
        type = new Type();
        planner = new Planner();
        heaps = new Heaps();
        workers = new House();
    }

    // ---- readings

    public int read(int copy, int forme, int place, int letter) {
        if (!isCopy(copy) || !isForme(forme) || !within(place, PLACES)) {
            return UNKNOWN;
        }
        if (letter != NONE && !within(letter, LETTERS)) {
            return OUTSIDE;
        }
        return formes[forme].putLetter(copy, place, letter);
    }

    public int agree(int forme, int a, int b) {
        if (!isForme(forme) || !isCopy(a) || !isCopy(b)) {
            return UNKNOWN;
        }
        return formes[forme].areAlike(a, b) ? 1 : 0;
    }

    public int states(int forme) {
        if (!isForme(forme)) {
            return UNKNOWN;
        }
        return grouped(forme).groups;
    }

    public int state(int forme, int copy) {
        if (!isForme(forme) || !isCopy(copy)) {
            return UNKNOWN;
        }
        return grouped(forme).group[copy];
    }

    public int letter(int forme, int state, int place) {
        if (!isState(forme, state) || !within(place, PLACES)) {
            return UNKNOWN;
        }
        return grouped(forme).groupLetter(state, place);
    }

    public int slips(int forme, int n) {
        if (!isForme(forme)) {
            return UNKNOWN;
        }
        if (n < 1 || n > COPIES) {
            return OUTSIDE;
        }
        return slipCounter.fewestSlips(grouped(forme), n);
    }

    // ---- orders

    public int ahead(int forme, int a, int b, boolean is) {
        if (!isForme(forme) || !isCopy(a) || !isCopy(b)) {
            return UNKNOWN;
        }
        if (a == b) {
            return STATE;
        }
        return formes[forme].tellAhead(a, b, is);
    }

    public int changes(int forme, int a, int b) {
        if (!isState(forme, a) || !isState(forme, b)) {
            return UNKNOWN;
        }
        return grouped(forme).unlikePlaces(a, b);
    }

    public int least(int forme) {
        if (!isForme(forme)) {
            return UNKNOWN;
        }
        return orderFinder.leastCost(grouped(forme));
    }

    public int orders(int forme) {
        if (!isForme(forme)) {
            return UNKNOWN;
        }
        return orderFinder.leastWays(grouped(forme));
    }

    public int first(int forme, int i) {
        if (!isForme(forme)) {
            return UNKNOWN;
        }
        if (!within(i, COPIES)) {
            return NONE;
        }
        return orderFinder.stateAt(grouped(forme), i);
    }

    public int before(int forme, int a, int b) {
        if (!isState(forme, a) || !isState(forme, b)) {
            return UNKNOWN;
        }
        if (a == b) {
            return STATE;
        }
        return orderFinder.waysWith(grouped(forme), a, b);
    }

    // ---- type, days

    public int piece(int piece, int forme, int how) {
        if (!within(piece, PIECES) || !isForme(forme)) {
            return UNKNOWN;
        }
        if (how != NONE && how != Type.WHOLE && how != Type.HURT) {
            return OUTSIDE;
        }
        planner.forget();
        return type.putPiece(piece, forme, how);
    }

    public int share(int a, int b) {
        if (!isForme(a) || !isForme(b)) {
            return UNKNOWN;
        }
        return type.sharing[a] >> b & 1;
    }

    public int must(int a, int b) {
        if (!isForme(a) || !isForme(b)) {
            return UNKNOWN;
        }
        return type.behind[a] >> b & 1;
    }

    public int ring() {
        return type.ringSize();
    }

    public int presses(int v) {
        if (v < 1 || v > MOST_PRESSES) {
            return OUTSIDE;
        }
        return planner.putPresses(v);
    }

    public int plans(int d) {
        if (!isDays(d)) {
            return OUTSIDE;
        }
        return planner.planCount(type, d, 0);
    }

    public int day(int d, int forme) {
        if (!isForme(forme)) {
            return UNKNOWN;
        }
        if (!isDays(d)) {
            return OUTSIDE;
        }
        return planner.dayInFirst(type, d, forme);
    }

    public int beside(int d, int a, int b) {
        if (!isForme(a) || !isForme(b)) {
            return UNKNOWN;
        }
        if (!isDays(d)) {
            return OUTSIDE;
        }
        if (!type.isTold(a) || !type.isTold(b)) {
            return STATE;
        }
        return planner.planCount(type, d, 1 << a | 1 << b);
    }

    public int fewest() {
        for (int d = 1; d <= DAYS; d++) {
            if (planner.planCount(type, d, 0) > 0) {
                return d;
            }
        }
        return NONE;
    }

    // ---- heaps

    public int sheet(int forme, int kind) {
        if (!isForme(forme)) {
            return UNKNOWN;
        }
        if (!within(kind, KINDS)) {
            return OUTSIDE;
        }
        if (heaps.printed[forme] >= SHEETS) {
            return STATE;
        }
        return heaps.addSheet(forme, kind);
    }

    public int size(int v) {
        if (v < 1 || v > MOST_SIZE) {
            return OUTSIDE;
        }
        return heaps.putSize(v);
    }

    public int seen(int forme, int book, int kind) {
        if (!isForme(forme) || !within(book, BOOKS)) {
            return UNKNOWN;
        }
        if (kind != NONE && !within(kind, KINDS)) {
            return OUTSIDE;
        }
        return heaps.putSeen(forme, book, kind);
    }

    public int turns(int forme) {
        if (!isForme(forme)) {
            return UNKNOWN;
        }
        return heaps.turnings(forme);
    }

    public int turned(int forme, int heap) {
        if (!isForme(forme) || !within(heap, heaps.heapCount(forme))) {
            return UNKNOWN;
        }
        return heaps.choices(forme, heap);
    }

    public int bound(int forme, int book, boolean turned) {
        if (!isForme(forme) || !within(book, BOOKS)) {
            return UNKNOWN;
        }
        return heaps.kindIn(forme, book, turned);
    }

    // ---- men

    public int house(int men, int pages) {
        if (men < 1 || men > MEN || pages < 1 || pages > PAGES) {
            return OUTSIDE;
        }
        return workers.putHouse(men, pages);
    }

    public int habit(int man, int word, int form) {
        if (!isMan(man) || !within(word, WORDS)) {
            return UNKNOWN;
        }
        if (form != NONE && !within(form, FORMS)) {
            return OUTSIDE;
        }
        return workers.putHabit(man, word, form);
    }

    public int spell(int page, int word, int form, int times) {
        if (!isPage(page) || !within(word, WORDS)) {
            return UNKNOWN;
        }
        if (!within(form, FORMS) || !within(times, TIMES)) {
            return OUTSIDE;
        }
        return workers.putTimes(page, word, form, times);
    }

    public int change(int v) {
        if (v < 0 || v > MOST_CHANGE) {
            return OUTSIDE;
        }
        return workers.putChange(v);
    }

    public int against(int page, int man) {
        if (!isPage(page) || !isMan(man)) {
            return UNKNOWN;
        }
        return workers.wordsAgainst(page, man);
    }

    public int setting() {
        return workers.bestCost();
    }

    public int who(int page) {
        if (!isPage(page)) {
            return UNKNOWN;
        }
        return workers.firstMan(page);
    }

    public int sure(int page) {
        if (!isPage(page)) {
            return UNKNOWN;
        }
        return workers.bestMen(page) == 1 ? 1 : 0;
    }

    public int settings() {
        return workers.bestWays();
    }

    public int count(int what) {
        switch (what) {
            case 0:
                return countReadings();
            case 1:
                return countAhead();
            case 2:
                return Integer.bitCount(type.toldOf);
            case 3:
                return heaps.countSheets();
            case 4:
                return heaps.countSeen();
            case 5:
                return workers.men;
            case 6:
                return workers.pages;
            default:
                return OUTSIDE;
        }
    }

    private int countReadings() {
        int sum = 0;
        for (int f = 0; f < FORMES; f++) {
            sum += formes[f].readingCount();
        }
        return sum;
    }

    private int countAhead() {
        int sum = 0;
        for (int f = 0; f < FORMES; f++) {
            sum += formes[f].aheadCount();
        }
        return sum;
    }

    private static boolean within(int v, int limit) {
        return v >= 0 && v < limit;
    }

    private static boolean isCopy(int copy) {
        return within(copy, COPIES);
    }

    private static boolean isForme(int forme) {
        return within(forme, FORMES);
    }

    private static boolean isDays(int d) {
        return d >= 1 && d <= DAYS;
    }

    private boolean isState(int forme, int state) {
        return isForme(forme) && within(state, grouped(forme).groups);
    }

    /** All that asks for states takes the forme from here. */
    private Forme grouped(int forme) {
        Forme f = formes[forme];
        if (!f.grouped) {
            f.makeGroups();
        }
        return f;
    }

    private boolean isMan(int man) {
        return within(man, workers.men);
    }

    private boolean isPage(int page) {
        return within(page, workers.pages);
    }

    /** What was read and told of one forme, and its states. */
    private static final class Forme {
        private final int[][] letters = new int[COPIES][PLACES];
        /** Bit b of row a: copy a was told ahead of copy b. */
        private final int[] toldAhead = new int[COPIES];
        /** Bit b of row a: copies a and b do not agree. */
        private final int[] unlike = new int[COPIES];
        private final int[] members = new int[COPIES];
        private final int[] group = new int[COPIES];
        private int lookedAt;
        private int groups;
        private boolean grouped;

        // The orders stand here, for the rows they are found with serve all formes.
        private final int[] firstOrder = new int[COPIES];
        private int orderCost;
        private int orderWays;
        private boolean ordered;

        Forme() {
            for (int c = 0; c < COPIES; c++) {
                Arrays.fill(letters[c], NONE);
            }
        }

        int putLetter(int copy, int place, int letter) {
            int was = letters[copy][place];
            letters[copy][place] = letter;
            grouped = false;
            ordered = false;
            return was;
        }

        int tellAhead(int a, int b, boolean is) {
            int was = toldAhead[a] >> b & 1;
            if (is) {
                toldAhead[a] |= 1 << b;
            } else {
                toldAhead[a] &= ~(1 << b);
            }
            ordered = false;
            return was;
        }

        boolean areAlike(int a, int b) {
            for (int p = 0; p < PLACES; p++) {
                if (areUnlike(letters[a][p], letters[b][p])) {
                    return false;
                }
            }
            return true;
        }

        private static boolean areUnlike(int x, int y) {
            return x != NONE && y != NONE && x != y;
        }

        /** Made when they are asked for, not as each reading comes: see grouped(forme). */
        void makeGroups() {
            lookedAt = copiesLookedAt();
            for (int c = 0; c < COPIES; c++) {
                members[c] = 0;
                group[c] = NONE;
                unlike[c] = unlikeCopies(c);
            }
            groups = 0;
            while (!fill(this, 0, 0) && groups < COPIES) {
                groups++;
            }
            grouped = true;
        }

        private int copiesLookedAt() {
            int set = 0;
            for (int c = 0; c < COPIES; c++) {
                for (int p = 0; p < PLACES; p++) {
                    if (letters[c][p] != NONE) {
                        set |= 1 << c;
                    }
                }
            }
            return set;
        }

        private int unlikeCopies(int a) {
            int set = 0;
            for (int b = 0; b < COPIES; b++) {
                if (!areAlike(a, b)) {
                    set |= 1 << b;
                }
            }
            return set;
        }

        /**
         * Puts this copy and all behind it into the groups there may be, the
         * least number first: as the number of groups grows by one from 0,
         * what is found first is the one that is due.
         */
        private static boolean fill(Forme f, int copy, int used) {
            if (copy >= COPIES) {
                return true;
            }
            if ((f.lookedAt >> copy & 1) == 0) {
                return fill(f, copy + 1, used);
            }
            for (int g = 0; g <= used && g < f.groups; g++) {
                if ((f.members[g] & f.unlike[copy]) == 0) {
                    f.members[g] |= 1 << copy;
                    f.group[copy] = g;
                    if (fill(f, copy + 1, Math.max(used, g + 1))) {
                        return true;
                    }
                    f.members[g] &= ~(1 << copy);
                }
            }
            return false;
        }

        int groupLetter(int state, int place) {
            for (int c = 0; c < COPIES; c++) {
                if (group[c] == state && letters[c][place] != NONE) {
                    return letters[c][place];
                }
            }
            return NONE;
        }

        int unlikePlaces(int a, int b) {
            int sum = 0;
            for (int p = 0; p < PLACES; p++) {
                if (areUnlike(groupLetter(a, p), groupLetter(b, p))) {
                    sum++;
                }
            }
            return sum;
        }

        /** The states that have to be ahead of this one, as a set. */
        int statesAhead(int state) {
            int set = 0;
            for (int a = 0; a < COPIES; a++) {
                if (group[a] != NONE && group[a] != state && tellsAheadOf(a, state)) {
                    set |= 1 << group[a];
                }
            }
            return set;
        }

        private boolean tellsAheadOf(int a, int state) {
            return (toldAhead[a] & members[state]) != 0;
        }

        /** The copies that have this letter at this place, as a set. */
        int readersOf(int place, int letter) {
            int set = 0;
            for (int c = 0; c < COPIES; c++) {
                if (letters[c][place] == letter) {
                    set |= 1 << c;
                }
            }
            return set;
        }

        int readingCount() {
            int sum = 0;
            for (int c = 0; c < COPIES; c++) {
                for (int p = 0; p < PLACES; p++) {
                    if (letters[c][p] != NONE) {
                        sum++;
                    }
                }
            }
            return sum;
        }

        int aheadCount() {
            int sum = 0;
            for (int a = 0; a < COPIES; a++) {
                sum += Integer.bitCount(toldAhead[a]);
            }
            return sum;
        }
    }

    /** How few readings have to go for copies to be of few groups. */
    private static final class SlipCounter {
        /** Of each set of copies: the slips that make it one group. */
        private final int[] alone = new int[COPY_SETS];
        /** Of each set of copies: the slips that make it the groups in hand, or fewer. */
        private final int[] parted = new int[COPY_SETS];
        /** Of each letter that the place in hand has: the copies that have it. */
        private final int[] readers = new int[LETTERS];
        private int lettersHere;

        int fewestSlips(Forme f, int n) {
            if (n >= f.groups) {
                return 0;
            }
            int all = f.lookedAt;
            countAlone(f, all);
            if (n == 1) {
                return alone[all];
            }
            System.arraycopy(alone, 0, parted, 0, COPY_SETS);
            for (int groups = 2; groups < n; groups++) {
                allowOneMore(all);
            }
            return slipsWithOneMore(all);
        }

        private void countAlone(Forme f, int all) {
            Arrays.fill(alone, 0);
            for (int p = 0; p < PLACES; p++) {
                takeReaders(f, p);
                for (int set = all; set > 0; set = (set - 1) & all) {
                    alone[set] += slipsAtPlace(set);
                }
            }
        }

        private void takeReaders(Forme f, int place) {
            lettersHere = 0;
            for (int k = 0; k < LETTERS; k++) {
                int set = f.readersOf(place, k);
                if (set != 0) {
                    readers[lettersHere] = set;
                    lettersHere++;
                }
            }
        }

        /** All readings but those of the letter that most copies have. */
        private int slipsAtPlace(int set) {
            int sum = 0;
            int most = 0;
            for (int k = 0; k < lettersHere; k++) {
                int with = Integer.bitCount(set & readers[k]);
                sum += with;
                most = Math.max(most, with);
            }
            return sum - most;
        }

        /** From the greatest set down, for a set looks at lesser ones as they were. */
        private void allowOneMore(int all) {
            for (int set = all; set > 0; set = (set - 1) & all) {
                parted[set] = slipsWithOneMore(set);
            }
        }

        /** The least copy is of some group: that group, and the others parted as before. */
        private int slipsWithOneMore(int set) {
            int low = set & -set;
            int rest = set ^ low;
            int least = parted[rest];
            for (int sub = rest; sub > 0; sub = (sub - 1) & rest) {
                least = Math.min(least, alone[sub | low] + parted[rest ^ sub]);
            }
            return least;
        }
    }

    /** The least orders of a forme's states. */
    private static final class OrderFinder {
        /** One number holds a cost and, below SPAN, in how many ways; 9! is less than SPAN. */
        private static final int SPAN = 1 << 20;
        private static final int NO_ORDER = -1;
        private static final int ONE_WAY = 1;

        /** Of a set of states that have gone and the last of them: the rest of the order. */
        private final int[] rests = new int[COPY_SETS * COPIES];
        private final int[] steps = new int[COPIES * COPIES];
        /** Of each state: those that have to go ahead of it. */
        private final int[] needs = new int[COPIES];
        private int states;

        int leastCost(Forme f) {
            makeOrders(f);
            return f.orderCost;
        }

        int leastWays(Forme f) {
            makeOrders(f);
            return f.orderWays;
        }

        int stateAt(Forme f, int i) {
            makeOrders(f);
            return f.firstOrder[i];
        }

        /** In how many of the least orders state a is ahead of state b. */
        int waysWith(Forme f, int a, int b) {
            makeOrders(f);
            if (f.orderCost == NONE) {
                return 0;
            }
            takeStates(f);
            needs[b] |= 1 << a;
            int whole = findRests();
            return whole != NO_ORDER && whole / SPAN == f.orderCost ? whole % SPAN : 0;
        }

        private void makeOrders(Forme f) {
            if (f.ordered) {
                return;
            }
            takeStates(f);
            int whole = findRests();
            f.orderCost = whole == NO_ORDER ? NONE : whole / SPAN;
            f.orderWays = whole == NO_ORDER ? 0 : whole % SPAN;
            Arrays.fill(f.firstOrder, NONE);
            if (whole != NO_ORDER) {
                walkFirst(f.firstOrder, f.orderCost);
            }
            f.ordered = true;
        }

        private void takeStates(Forme f) {
            states = f.groups;
            for (int a = 0; a < states; a++) {
                needs[a] = f.statesAhead(a);
                for (int b = 0; b < a; b++) {
                    int step = f.unlikePlaces(a, b);
                    steps[a * COPIES + b] = step;
                    steps[b * COPIES + a] = step;
                }
            }
        }

        /** Fills the rests from the greatest set down; answers the whole order's. */
        private int findRests() {
            int full = (1 << states) - 1;
            for (int gone = full; gone > 0; gone--) {
                for (int last = 0; last < states; last++) {
                    if ((gone >> last & 1) != 0) {
                        rests[gone * COPIES + last] = gone == full ? ONE_WAY : restBehind(gone, last);
                    }
                }
            }
            return full == 0 ? ONE_WAY : restBehind(0, NONE);
        }

        private int restBehind(int gone, int last) {
            int best = NO_ORDER;
            for (int next = 0; next < states; next++) {
                if (mayCome(gone, next)) {
                    best = join(best, restThrough(gone, last, next));
                }
            }
            return best;
        }

        private boolean mayCome(int gone, int next) {
            return (gone >> next & 1) == 0 && (needs[next] & ~gone) == 0;
        }

        /** What is left to come, if this state, which may, comes next. */
        private int restThrough(int gone, int last, int next) {
            int rest = rests[(gone | 1 << next) * COPIES + next];
            if (rest == NO_ORDER || last == NONE) {
                return rest;
            }
            return rest + steps[last * COPIES + next] * SPAN;
        }

        private static int join(int x, int y) {
            if (x == NO_ORDER || y == NO_ORDER) {
                return Math.max(x, y);
            }
            if (x / SPAN != y / SPAN) {
                return Math.min(x, y);
            }
            return x + y % SPAN;
        }

        private void walkFirst(int[] row, int cost) {
            int gone = 0;
            int last = NONE;
            int left = cost;
            for (int i = 0; i < states; i++) {
                int next = leastNext(gone, last, left);
                if (next == NONE) {
                    return;
                }
                row[i] = next;
                left -= last == NONE ? 0 : steps[last * COPIES + next];
                gone |= 1 << next;
                last = next;
            }
        }

        private int leastNext(int gone, int last, int left) {
            for (int next = 0; next < states; next++) {
                int rest = mayCome(gone, next) ? restThrough(gone, last, next) : NO_ORDER;
                if (rest != NO_ORDER && rest / SPAN == left) {
                    return next;
                }
            }
            return NONE;
        }
    }

    /** Pieces of type in formes, and what they tell of which forme was ahead. */
    private static final class Type {
        private static final int WHOLE = 0, HURT = 1;

        private final int[][] pieces = new int[PIECES][FORMES];
        /** Of each forme: the formes that have a piece of it, itself among them. */
        private final int[] sharing = new int[FORMES];
        /** Of each forme: the formes that it must be ahead of. */
        private final int[] behind = new int[FORMES];
        private int toldOf;

        Type() {
            for (int p = 0; p < PIECES; p++) {
                Arrays.fill(pieces[p], NONE);
            }
        }

        int putPiece(int piece, int forme, int how) {
            int was = pieces[piece][forme];
            pieces[piece][forme] = how;
            link();
            return was;
        }

        private void link() {
            Arrays.fill(sharing, 0);
            Arrays.fill(behind, 0);
            for (int p = 0; p < PIECES; p++) {
                linkPiece(pieces[p]);
            }
            toldOf = 0;
            for (int f = 0; f < FORMES; f++) {
                toldOf |= sharing[f];
            }
            reachOn();
        }

        private void linkPiece(int[] inFormes) {
            int whole = formesWith(inFormes, WHOLE);
            int hurt = formesWith(inFormes, HURT);
            for (int f = 0; f < FORMES; f++) {
                if (inFormes[f] != NONE) {
                    sharing[f] |= whole | hurt;
                }
                if (inFormes[f] == WHOLE) {
                    behind[f] |= hurt;
                }
            }
        }

        private static int formesWith(int[] inFormes, int how) {
            int set = 0;
            for (int f = 0; f < FORMES; f++) {
                if (inFormes[f] == how) {
                    set |= 1 << f;
                }
            }
            return set;
        }

        private void reachOn() {
            for (int mid = 0; mid < FORMES; mid++) {
                for (int f = 0; f < FORMES; f++) {
                    if ((behind[f] >> mid & 1) != 0) {
                        behind[f] |= behind[mid];
                    }
                }
            }
        }

        boolean isTold(int forme) {
            return (toldOf >> forme & 1) != 0;
        }

        int ringSize() {
            int sum = 0;
            for (int f = 0; f < FORMES; f++) {
                sum += behind[f] >> f & 1;
            }
            return sum;
        }
    }

    /** Plans: the days on which formes can have lain. */
    private static final class Planner {
        /** Of each set of formes: whether it can lie on one day (1), or not (0). */
        private final int[] fits = new int[FORME_SETS];
        /** Of each set of formes: those that must be ahead of one of them. */
        private final int[] needs = new int[FORME_SETS];
        /** Of each set of formes: in how many ways it lies on the days so far. */
        private final int[] ways = new int[FORME_SETS];
        private final int[] firstPlan = new int[FORMES];
        private final int[] onDay = new int[DAYS];
        private int mostOnDay = 2;
        /** For how many days the first plan is; 0: it has to be made anew. */
        private int plannedDays;

        void forget() {
            plannedDays = 0;
        }

        int putPresses(int v) {
            int was = mostOnDay;
            mostOnDay = v;
            forget();
            return was;
        }

        /** Plans in which those of the pair (a set, which may be empty) lie on one day. */
        int planCount(Type t, int days, int pair) {
            weighSets(t, pair);
            Arrays.fill(ways, 0);
            ways[0] = 1;
            for (int d = 0; d < days; d++) {
                addDay(t.toldOf);
            }
            return ways[t.toldOf];
        }

        private void weighSets(Type t, int pair) {
            for (int set = 0; set < FORME_SETS; set++) {
                int of = set & pair;
                boolean pairKept = of == 0 || of == pair;
                fits[set] = pairKept && canLie(t, set) ? 1 : 0;
                needs[set] = formesAhead(t, set);
            }
        }

        private boolean canLie(Type t, int set) {
            if (Integer.bitCount(set) > mostOnDay) {
                return false;
            }
            for (int f = 0; f < FORMES; f++) {
                int others = set & ~(1 << f);
                if (others != set && (t.sharing[f] & others) != 0) {
                    return false;
                }
            }
            return true;
        }

        private static int formesAhead(Type t, int set) {
            int ahead = 0;
            for (int f = 0; f < FORMES; f++) {
                if ((t.behind[f] & set) != 0) {
                    ahead |= 1 << f;
                }
            }
            return ahead;
        }

        /** From the greatest set down, for a set looks at lesser ones as they were. */
        private void addDay(int all) {
            for (int set = all; set > 0; set = (set - 1) & all) {
                int sum = ways[set];
                for (int sub = set; sub > 0; sub = (sub - 1) & set) {
                    if (fits[sub] != 0 && (needs[sub] & ~(set ^ sub)) == 0) {
                        sum += ways[set ^ sub];
                    }
                }
                ways[set] = sum;
            }
        }

        int dayInFirst(Type t, int days, int forme) {
            if (plannedDays != days) {
                makeFirst(t, days);
                plannedDays = days;
            }
            return firstPlan[forme];
        }

        private void makeFirst(Type t, int days) {
            Arrays.fill(onDay, 0);
            Arrays.fill(firstPlan, NONE);
            if (t.ringSize() > 0 || !lay(this, t, 0, days)) {
                Arrays.fill(firstPlan, NONE);
            }
        }

        private static boolean lay(Planner plan, Type t, int forme, int days) {
            if (forme >= FORMES) {
                return true;
            }
            if (!t.isTold(forme)) {
                return lay(plan, t, forme + 1, days);
            }
            for (int d = 0; d < days; d++) {
                if (plan.hasRoom(t, forme, d) && plan.keepsTurn(t, forme, d)) {
                    plan.onDay[d] |= 1 << forme;
                    plan.firstPlan[forme] = d;
                    if (lay(plan, t, forme + 1, days)) {
                        return true;
                    }
                    plan.onDay[d] &= ~(1 << forme);
                }
            }
            return false;
        }

        private boolean hasRoom(Type t, int forme, int day) {
            return Integer.bitCount(onDay[day]) < mostOnDay && (onDay[day] & t.sharing[forme]) == 0;
        }

        private boolean keepsTurn(Type t, int forme, int day) {
            for (int f = 0; f < forme; f++) {
                boolean mustFollow = (t.behind[f] >> forme & 1) != 0;
                boolean mustLead = (t.behind[forme] >> f & 1) != 0;
                if (mustFollow && firstPlan[f] >= day || mustLead && firstPlan[f] <= day) {
                    return false;
                }
            }
            return true;
        }
    }

    /** Sheets of formes, laid in heaps that are turned or not. */
    private static final class Heaps {
        private final int[][] kinds = new int[FORMES][SHEETS];
        private final int[] printed = new int[FORMES];
        private final int[][] seenKinds = new int[FORMES][BOOKS];
        private int heapSize = 4;

        Heaps() {
            for (int f = 0; f < FORMES; f++) {
                Arrays.fill(seenKinds[f], NONE);
            }
        }

        /** The caller has looked that there is room for it. */
        int addSheet(int forme, int kind) {
            kinds[forme][printed[forme]] = kind;
            printed[forme]++;
            return printed[forme];
        }

        int putSize(int v) {
            int was = heapSize;
            heapSize = v;
            return was;
        }

        int putSeen(int forme, int book, int kind) {
            int was = seenKinds[forme][book];
            seenKinds[forme][book] = kind;
            return was;
        }

        int heapCount(int forme) {
            return (printed[forme] + heapSize - 1) / heapSize;
        }

        private int heapEnd(int forme, int heap) {
            return Math.min((heap + 1) * heapSize, printed[forme]);
        }

        /** A heap's sheets go into as many books, of the same numbers. */
        int kindIn(int forme, int book, boolean turned) {
            if (book >= printed[forme]) {
                return NONE;
            }
            if (turned) {
                return kinds[forme][book];
            }
            int heap = book / heapSize;
            int fromTop = book - heap * heapSize;
            return kinds[forme][heapEnd(forme, heap) - 1 - fromTop];
        }

        private boolean mayBe(int forme, int heap, boolean turned) {
            int end = heapEnd(forme, heap);
            for (int book = heap * heapSize; book < end; book++) {
                int kind = seenKinds[forme][book];
                if (kind != NONE && kind != kindIn(forme, book, turned)) {
                    return false;
                }
            }
            return true;
        }

        int choices(int forme, int heap) {
            return (mayBe(forme, heap, false) ? 1 : 0) + (mayBe(forme, heap, true) ? 2 : 0);
        }

        int turnings(int forme) {
            int ways = 1;
            int heaps = heapCount(forme);
            for (int heap = 0; heap < heaps; heap++) {
                ways *= Integer.bitCount(choices(forme, heap));
            }
            return ways;
        }

        int countSheets() {
            int sum = 0;
            for (int f = 0; f < FORMES; f++) {
                sum += printed[f];
            }
            return sum;
        }

        int countSeen() {
            int sum = 0;
            for (int f = 0; f < FORMES; f++) {
                for (int b = 0; b < BOOKS; b++) {
                    if (seenKinds[f][b] != NONE) {
                        sum++;
                    }
                }
            }
            return sum;
        }
    }

    /** Men with their habits, pages with their words, and the best settings. */
    private static final class House {
        private final int[][] habits = new int[MEN][WORDS];
        private final int[][] wordTimes = new int[PAGES][WORDS * FORMS];
        private int men = 2;
        private int pages = 4;
        private int changeCost = 3;

        /** Of each page and man: what is against. */
        private final int[][] own = new int[PAGES][MEN];
        /** Of each page and man: what all pages up to it cost at least, its own among them. */
        private final int[][] upTo = new int[PAGES][MEN];
        /** Of each page and man: what all pages behind it cost at least, its own not. */
        private final int[][] behind = new int[PAGES][MEN];
        /** Of each page and man: in how many ways the pages behind it cost so little. */
        private final int[][] ways = new int[PAGES][MEN];
        private int least;
        private boolean solved;

        House() {
            for (int m = 0; m < MEN; m++) {
                Arrays.fill(habits[m], NONE);
            }
        }

        int putHouse(int newMen, int newPages) {
            int was = men;
            men = newMen;
            pages = newPages;
            solved = false;
            return was;
        }

        int putHabit(int man, int word, int form) {
            int was = habits[man][word];
            habits[man][word] = form;
            solved = false;
            return was;
        }

        int putTimes(int page, int word, int form, int times) {
            int was = wordTimes[page][word * FORMS + form];
            wordTimes[page][word * FORMS + form] = times;
            solved = false;
            return was;
        }

        int putChange(int v) {
            int was = changeCost;
            changeCost = v;
            solved = false;
            return was;
        }

        int wordsAgainst(int page, int man) {
            int sum = 0;
            for (int w = 0; w < WORDS; w++) {
                for (int form = 0; form < FORMS; form++) {
                    if (habits[man][w] != NONE && habits[man][w] != form) {
                        sum += wordTimes[page][w * FORMS + form];
                    }
                }
            }
            return sum;
        }

        int bestCost() {
            solve();
            return least;
        }

        int bestWays() {
            solve();
            int sum = 0;
            for (int m = 0; m < men; m++) {
                if (isBest(0, m)) {
                    sum += ways[0][m];
                }
            }
            return sum;
        }

        /** How many men a page has among all the best settings. */
        int bestMen(int page) {
            solve();
            int sum = 0;
            for (int m = 0; m < men; m++) {
                if (isBest(page, m)) {
                    sum++;
                }
            }
            return sum;
        }

        int firstMan(int page) {
            solve();
            int man = leastBestMan();
            for (int p = 0; p < page; p++) {
                man = nextMan(p, man);
            }
            return man;
        }

        private boolean isBest(int page, int man) {
            return upTo[page][man] + behind[page][man] == least;
        }

        private int leastBestMan() {
            for (int m = 0; m < men - 1; m++) {
                if (isBest(0, m)) {
                    return m;
                }
            }
            return men - 1;
        }

        /** The least man of the page behind with whom the rest still costs least. */
        private int nextMan(int page, int man) {
            for (int m = 0; m < men - 1; m++) {
                if (costThrough(page, man, m) == behind[page][man]) {
                    return m;
                }
            }
            return men - 1;
        }

        private int changeOf(int a, int b) {
            return a == b ? 0 : changeCost;
        }

        /** What the pages behind this one cost, if this next man has the first of them. */
        private int costThrough(int page, int man, int next) {
            return changeOf(man, next) + own[page + 1][next] + behind[page + 1][next];
        }

        private void solve() {
            if (solved) {
                return;
            }
            for (int p = 0; p < pages; p++) {
                for (int m = 0; m < men; m++) {
                    own[p][m] = wordsAgainst(p, m);
                    upTo[p][m] = own[p][m] + (p == 0 ? 0 : costAhead(p, m));
                }
            }
            for (int p = pages - 1; p >= 0; p--) {
                for (int m = 0; m < men; m++) {
                    lookBehind(p, m);
                }
            }
            least = leastUpTo(pages - 1);
            solved = true;
        }

        private int costAhead(int page, int man) {
            int best = upTo[page - 1][man];
            for (int m = 0; m < men; m++) {
                best = Math.min(best, upTo[page - 1][m] + changeOf(m, man));
            }
            return best;
        }

        private void lookBehind(int page, int man) {
            if (page == pages - 1) {
                behind[page][man] = 0;
                ways[page][man] = 1;
                return;
            }
            int best = costThrough(page, man, man);
            for (int m = 0; m < men; m++) {
                best = Math.min(best, costThrough(page, man, m));
            }
            int sum = 0;
            for (int m = 0; m < men; m++) {
                if (costThrough(page, man, m) == best) {
                    sum += ways[page + 1][m];
                }
            }
            behind[page][man] = best;
            ways[page][man] = sum;
        }

        private int leastUpTo(int page) {
            int best = upTo[page][0];
            for (int m = 1; m < men; m++) {
                best = Math.min(best, upTo[page][m]);
            }
            return best;
        }
    }
}
