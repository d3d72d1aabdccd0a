/** Promises 23 to 28: each sentence that names a boundary case, with a test of its own. */
public final class HeapEdgesTest {
    private static final int UNKNOWN = Check.UNKNOWN, OUTSIDE = Check.OUTSIDE, STATE = Check.STATE, NONE = Check.NONE;

    public static void main(String[] args) {
        sheetsFromOneToTwelve();
        sheetOfEachKind();
        sheetRefuses();
        sheetsOfAllFormes();
        sizeFromOneToTwelve();
        sizeIsOfAllFormes();
        seenAtEachCorner();
        seenOfEachKind();
        seenRefuses();
        seenOfAllBooks();
        seenBehindTheSheets();
        turnsOfNoSheet();
        turnsOfEachNumberOfHeaps();
        turnsWhereOneHeapMayBeNeither();
        turnsOfHeapsThatAreTold();
        turnsRefuse();
        turnedOfTheLastHeapAndTheFirstThatIsNot();
        turnedOfAFullLastHeap();
        turnedOfAHeapOfOne();
        turnedOfEachAnswer();
        turnedAtEachBookOfAHeap();
        turnedOfAHeapThatReadsTheSameBothWays();
        turnedGrowsWithTheHeap();
        turnedRefuses();
        boundOfTheLastBookAndTheFirstThatIsNot();
        boundOfEachSize();
        boundOfTheLastHeap();
        boundIsNotWhatWasSeen();
        boundRefuses();
        Check.finish();
    }

    /** Sheets of kinds 0, 1, 2, .. */
    private static PressSheets sheets(int forme, int many) {
        PressSheets x = new PressSheets();
        add(x, forme, many);
        return x;
    }

    private static void add(PressSheets x, int forme, int many) {
        for (int i = 0; i < many; i++) {
            Check.due("sheet " + i, x.sheet(forme, i % 10), i + 1);
        }
    }

    private static void books(String what, PressSheets x, int forme, boolean turned, int... want) {
        for (int b = 0; b < 12; b++) {
            Check.due(what + ": book " + b, x.bound(forme, b, turned), b < want.length ? want[b] : NONE);
        }
    }

    // ---- promise 23

    private static void sheetsFromOneToTwelve() {
        PressSheets x = sheets(5, 11);
        Check.due("the twelfth", x.sheet(5, 0), 12);
        Check.due("a thirteenth", x.sheet(5, 0), STATE);
        Check.due("again", x.sheet(5, 9), STATE);
        Check.due("twelve there are", x.count(3), 12);
        Check.due("the last is the twelfth", x.bound(5, 11, true), 0);
    }

    private static void sheetOfEachKind() {
        PressSheets x = new PressSheets();
        for (int kind = 0; kind <= 9; kind++) {
            Check.due("kind " + kind, x.sheet(0, kind), kind + 1);
        }
        books("as they came", x, 0, true, 0, 1, 2, 3, 4, 5, 6, 7, 8, 9);
    }

    private static void sheetRefuses() {
        PressSheets x = new PressSheets();
        Check.due("kind -1", x.sheet(0, -1), OUTSIDE);
        Check.due("kind 10", x.sheet(0, 10), OUTSIDE);
        Check.due("kind NONE", x.sheet(0, NONE), OUTSIDE);
        Check.due("forme -1", x.sheet(-1, 0), UNKNOWN);
        Check.due("forme 6", x.sheet(6, 0), UNKNOWN);
        Check.due("no forme and no kind", x.sheet(6, 10), UNKNOWN);
        Check.due("none came", x.count(3), 0);
        Check.due("the first", x.sheet(0, 0), 1);
        x = sheets(0, 12);
        Check.due("no kind, and there are 12", x.sheet(0, 10), OUTSIDE);
        Check.due("no kind, and there are 12", x.sheet(0, -1), OUTSIDE);
        Check.due("no forme, while one has 12", x.sheet(6, 0), UNKNOWN);
    }

    private static void sheetsOfAllFormes() {
        PressSheets x = new PressSheets();
        for (int f = 0; f < 6; f++) {
            add(x, f, 12);
        }
        Check.due("all", x.count(3), 72);
        for (int f = 0; f < 6; f++) {
            Check.due("there are 12 of forme " + f, x.sheet(f, 0), STATE);
        }
        Check.due("all", x.count(3), 72);
    }

    // ---- promise 24

    private static void sizeFromOneToTwelve() {
        PressSheets x = new PressSheets();
        int was = 4;
        for (int v = 1; v <= 12; v++) {
            Check.due("to " + v, x.size(v), was);
            was = v;
        }
        Check.due("0", x.size(0), OUTSIDE);
        Check.due("13", x.size(13), OUTSIDE);
        Check.due("-1", x.size(-1), OUTSIDE);
        Check.due("NONE", x.size(NONE), OUTSIDE);
        Check.due("12 stays", x.size(12), 12);
    }

    private static void sizeIsOfAllFormes() {
        PressSheets x = sheets(0, 2);
        add(x, 5, 2);
        Check.due("one heap", x.turns(0), 2);
        x.size(1);
        Check.due("two heaps", x.turns(0), 4);
        Check.due("two heaps of the other", x.turns(5), 4);
        Check.due("refused", x.size(0), OUTSIDE);
        Check.due("two heaps still", x.turns(0), 4);
    }

    // ---- promise 25

    private static void seenAtEachCorner() {
        PressSheets x = new PressSheets();
        for (int f = 0; f <= 5; f += 5) {
            for (int b = 0; b <= 11; b += 11) {
                Check.due("nothing at first", x.seen(f, b, 0), NONE);
                Check.due("0", x.seen(f, b, 9), 0);
                Check.due("9", x.seen(f, b, 9), 9);
            }
        }
        Check.due("four books", x.count(4), 4);
    }

    private static void seenOfEachKind() {
        PressSheets x = new PressSheets();
        int was = NONE;
        for (int kind = 0; kind <= 9; kind++) {
            Check.due("ahead of kind " + kind, x.seen(2, 3, kind), was);
            was = kind;
        }
        Check.due("nothing any more", x.seen(2, 3, NONE), 9);
        Check.due("nothing again", x.seen(2, 3, NONE), NONE);
        Check.due("no book", x.count(4), 0);
    }

    private static void seenRefuses() {
        PressSheets x = new PressSheets();
        x.seen(0, 0, 5);
        Check.due("kind -1", x.seen(0, 0, -1), OUTSIDE);
        Check.due("kind 10", x.seen(0, 0, 10), OUTSIDE);
        Check.due("book -1", x.seen(0, -1, 0), UNKNOWN);
        Check.due("book 12", x.seen(0, 12, 0), UNKNOWN);
        Check.due("forme -1", x.seen(-1, 0, 0), UNKNOWN);
        Check.due("forme 6", x.seen(6, 0, 0), UNKNOWN);
        Check.due("no book and no kind", x.seen(0, 12, 10), UNKNOWN);
        Check.due("no forme and no kind", x.seen(6, 0, 10), UNKNOWN);
        Check.due("5 stays", x.seen(0, 0, 5), 5);
        Check.due("one book", x.count(4), 1);
    }

    private static void seenOfAllBooks() {
        PressSheets x = new PressSheets();
        for (int f = 0; f < 6; f++) {
            for (int b = 0; b < 12; b++) {
                x.seen(f, b, (f + b) % 10);
            }
        }
        Check.due("all", x.count(4), 72);
        for (int f = 0; f < 6; f++) {
            for (int b = 0; b < 12; b++) {
                Check.due("of all", x.seen(f, b, NONE), (f + b) % 10);
            }
        }
        Check.due("none", x.count(4), 0);
    }

    /** A book that has no sheet is of no heap, until its sheet comes. */
    private static void seenBehindTheSheets() {
        PressSheets x = sheets(0, 4);
        x.seen(0, 4, 9);
        x.seen(0, 11, 9);
        Check.due("two books", x.count(4), 2);
        Check.due("they are of no heap", x.turns(0), 2);
        x.sheet(0, 8);
        Check.due("book 4 has a sheet now", x.turned(0, 1), 0);
        Check.due("no way", x.turns(0), 0);
        x.sheet(0, 9);
        Check.due("not turned: the last comes first", x.turned(0, 1), 1);
        Check.due("ways", x.turns(0), 2);
    }

    // ---- promise 26

    private static void turnsOfNoSheet() {
        PressSheets x = new PressSheets();
        x.seen(0, 0, 5);
        Check.due("no heap: one way", x.turns(0), 1);
        for (int v = 1; v <= 12; v++) {
            x.size(v);
            Check.due("no heap, size " + v, x.turns(5), 1);
        }
    }

    private static void turnsOfEachNumberOfHeaps() {
        PressSheets x = new PressSheets();
        x.size(1);
        int ways = 1;
        for (int i = 0; i < 12; i++) {
            x.sheet(5, 1);
            ways *= 2;
            Check.due("heaps of one, to " + i, x.turns(5), ways);
        }
        int[] heaps = {12, 6, 4, 3, 3, 2, 2, 2, 2, 2, 2, 1};
        for (int v = 1; v <= 12; v++) {
            x.size(v);
            Check.due("twelve sheets, size " + v, x.turns(5), 1 << heaps[v - 1]);
            Check.due("its last heap", x.turned(5, heaps[v - 1] - 1), 3);
            Check.due("and no more", x.turned(5, heaps[v - 1]), UNKNOWN);
        }
    }

    private static void turnsWhereOneHeapMayBeNeither() {
        PressSheets x = sheets(0, 12);
        Check.due("three heaps", x.turns(0), 8);
        x.seen(0, 11, 5);
        Check.due("the last may be neither", x.turns(0), 0);
        Check.due("the first may be both", x.turned(0, 0), 3);
        x.seen(0, 11, NONE);
        x.seen(0, 0, 5);
        Check.due("the first may be neither", x.turns(0), 0);
    }

    private static void turnsOfHeapsThatAreTold() {
        PressSheets x = sheets(0, 12);
        x.seen(0, 0, 3);
        Check.due("one is told", x.turns(0), 4);
        x.seen(0, 4, 4);
        Check.due("two are told", x.turns(0), 2);
        x.seen(0, 11, 8);
        Check.due("all are told", x.turns(0), 1);
        Check.due("not turned", x.turned(0, 0), 1);
        Check.due("turned", x.turned(0, 1), 2);
        Check.due("not turned", x.turned(0, 2), 1);
    }

    private static void turnsRefuse() {
        PressSheets x = sheets(0, 12);
        Check.due("forme -1", x.turns(-1), UNKNOWN);
        Check.due("forme 6", x.turns(6), UNKNOWN);
    }

    // ---- promise 27

    private static void turnedOfTheLastHeapAndTheFirstThatIsNot() {
        PressSheets x = new PressSheets();
        Check.due("no sheet", x.turned(0, 0), UNKNOWN);
        x.sheet(0, 1);
        Check.due("one sheet", x.turned(0, 0), 3);
        Check.due("one heap", x.turned(0, 1), UNKNOWN);
        x.size(1);
        add(x, 5, 12);
        Check.due("heap 11", x.turned(5, 11), 3);
        Check.due("heap 12", x.turned(5, 12), UNKNOWN);
        Check.due("heap -1", x.turned(5, -1), UNKNOWN);
        x.size(12);
        Check.due("heap 0", x.turned(5, 0), 3);
        Check.due("heap 1", x.turned(5, 1), UNKNOWN);
    }

    /** As many sheets as fill heaps: behind the last full one there is none. */
    private static void turnedOfAFullLastHeap() {
        PressSheets x = sheets(0, 4);
        Check.due("heap 1 of four sheets", x.turned(0, 1), UNKNOWN);
        x.sheet(0, 4);
        Check.due("heap 1 of five", x.turned(0, 1), 3);
        Check.due("heap 2 of five", x.turned(0, 2), UNKNOWN);
        x.sheet(0, 5);
        x.sheet(0, 6);
        x.sheet(0, 7);
        Check.due("heap 2 of eight", x.turned(0, 2), UNKNOWN);
        x.sheet(0, 8);
        Check.due("heap 2 of nine", x.turned(0, 2), 3);
    }

    private static void turnedOfAHeapOfOne() {
        PressSheets x = sheets(0, 5);
        x.seen(0, 4, 4);
        Check.due("both, for it is the same", x.turned(0, 1), 3);
        x.seen(0, 4, 3);
        Check.due("neither", x.turned(0, 1), 0);
    }

    private static void turnedOfEachAnswer() {
        PressSheets x = sheets(3, 4);
        Check.due("both", x.turned(3, 0), 3);
        x.seen(3, 1, 1);
        Check.due("turned", x.turned(3, 0), 2);
        x.seen(3, 1, 2);
        Check.due("not turned", x.turned(3, 0), 1);
        x.seen(3, 2, 2);
        Check.due("neither: one book for each", x.turned(3, 0), 0);
        x.seen(3, 1, NONE);
        Check.due("turned", x.turned(3, 0), 2);
        x.seen(3, 2, NONE);
        Check.due("both again", x.turned(3, 0), 3);
    }

    private static void turnedAtEachBookOfAHeap() {
        for (int b = 0; b < 8; b++) {
            PressSheets x = sheets(1, 8);
            x.seen(1, b, 9);
            Check.due("its heap may be neither, book " + b, x.turned(1, b / 4), 0);
            Check.due("the other both, book " + b, x.turned(1, 1 - b / 4), 3);
            x.seen(1, b, x.bound(1, b, true));
            Check.due("turned, book " + b, x.turned(1, b / 4), 2);
            x.seen(1, b, x.bound(1, b, false));
            Check.due("not turned, book " + b, x.turned(1, b / 4), 1);
        }
    }

    private static void turnedOfAHeapThatReadsTheSameBothWays() {
        PressSheets x = new PressSheets();
        for (int kind : new int[] {1, 2, 2, 1, 0, 0}) {
            x.sheet(0, kind);
        }
        for (int b = 0; b < 6; b++) {
            x.seen(0, b, x.bound(0, b, false));
        }
        Check.due("heap 0", x.turned(0, 0), 3);
        Check.due("heap 1", x.turned(0, 1), 3);
        Check.due("all ways", x.turns(0), 4);
    }

    private static void turnedGrowsWithTheHeap() {
        PressSheets x = sheets(0, 3);
        x.seen(0, 0, 2);
        Check.due("not turned", x.turned(0, 0), 1);
        x.sheet(0, 7);
        Check.due("another lies on the top", x.turned(0, 0), 0);
        x.seen(0, 0, 7);
        Check.due("not turned", x.turned(0, 0), 1);
        x.sheet(0, 8);
        Check.due("the next heap's does not", x.turned(0, 0), 1);
    }

    private static void turnedRefuses() {
        PressSheets x = sheets(0, 12);
        Check.due("forme -1", x.turned(-1, 0), UNKNOWN);
        Check.due("forme 6", x.turned(6, 0), UNKNOWN);
        Check.due("heap 3", x.turned(0, 3), UNKNOWN);
        Check.due("a forme without sheets", x.turned(1, 0), UNKNOWN);
        Check.due("the greatest int", x.turned(0, Integer.MAX_VALUE), UNKNOWN);
        Check.due("the least int", x.turned(0, Integer.MIN_VALUE), UNKNOWN);
    }

    // ---- promise 28

    private static void boundOfTheLastBookAndTheFirstThatIsNot() {
        PressSheets x = sheets(0, 5);
        Check.due("book 4", x.bound(0, 4, false), 4);
        Check.due("book 5", x.bound(0, 5, false), NONE);
        Check.due("book 4, turned", x.bound(0, 4, true), 4);
        Check.due("book 5, turned", x.bound(0, 5, true), NONE);
        Check.due("book 11", x.bound(0, 11, true), NONE);
        x = sheets(5, 12);
        Check.due("book 11 of twelve", x.bound(5, 11, true), 1);
        Check.due("book 11 of twelve, not turned", x.bound(5, 11, false), 8);
    }

    private static void boundOfEachSize() {
        PressSheets x = sheets(0, 7);
        x.size(1);
        books("size 1", x, 0, false, 0, 1, 2, 3, 4, 5, 6);
        x.size(2);
        books("size 2", x, 0, false, 1, 0, 3, 2, 5, 4, 6);
        x.size(3);
        books("size 3", x, 0, false, 2, 1, 0, 5, 4, 3, 6);
        x.size(6);
        books("size 6", x, 0, false, 5, 4, 3, 2, 1, 0, 6);
        x.size(7);
        books("size 7", x, 0, false, 6, 5, 4, 3, 2, 1, 0);
        x.size(12);
        books("size 12", x, 0, false, 6, 5, 4, 3, 2, 1, 0);
        books("turned", x, 0, true, 0, 1, 2, 3, 4, 5, 6);
        x.size(1);
        books("turned, size 1", x, 0, true, 0, 1, 2, 3, 4, 5, 6);
    }

    private static void boundOfTheLastHeap() {
        PressSheets x = sheets(0, 12);
        x.size(5);
        books("the last of two", x, 0, false, 4, 3, 2, 1, 0, 9, 8, 7, 6, 5, 1, 0);
        x.size(11);
        books("the last of one", x, 0, false, 0, 9, 8, 7, 6, 5, 4, 3, 2, 1, 0, 1);
    }

    private static void boundIsNotWhatWasSeen() {
        PressSheets x = sheets(0, 2);
        x.seen(0, 0, 9);
        x.seen(0, 2, 9);
        books("what was printed", x, 0, false, 1, 0);
        books("another forme", x, 1, false);
    }

    private static void boundRefuses() {
        PressSheets x = sheets(0, 12);
        for (int i = 0; i < 2; i++) {
            boolean turned = i == 1;
            Check.due("book -1", x.bound(0, -1, turned), UNKNOWN);
            Check.due("book 12", x.bound(0, 12, turned), UNKNOWN);
            Check.due("forme -1", x.bound(-1, 0, turned), UNKNOWN);
            Check.due("forme 6", x.bound(6, 0, turned), UNKNOWN);
            Check.due("no sheets, book 12", x.bound(1, 12, turned), UNKNOWN);
            Check.due("no sheets, book 0", x.bound(1, 0, turned), NONE);
        }
    }
}
