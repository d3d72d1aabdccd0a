/** Promises 23 to 28, and of promises 1 and 38 what is of heaps. */
public final class HeapsTest {
    private static final int UNKNOWN = Check.UNKNOWN, OUTSIDE = Check.OUTSIDE, STATE = Check.STATE, NONE = Check.NONE;

    public static void main(String[] args) {
        newObject();
        sheetsCome();
        sizeAnswersWhatItWas();
        seenAnswersWhatItHad();
        boundFromTheTop();
        turnedOfAHeap();
        turnsAreWays();
        heapsOfOne();
        refusals();
        Check.finish();
    }

    private static PressSheets sheets(int forme, int... kinds) {
        PressSheets x = new PressSheets();
        for (int i = 0; i < kinds.length; i++) {
            Check.due("sheet", x.sheet(forme, kinds[i]), i + 1);
        }
        return x;
    }

    private static void books(String what, PressSheets x, int forme, boolean turned, int... want) {
        for (int b = 0; b < 12; b++) {
            Check.due(what + ": book " + b, x.bound(forme, b, turned), b < want.length ? want[b] : NONE);
        }
    }

    private static void newObject() {
        PressSheets x = new PressSheets();
        for (int f = 0; f < 6; f++) {
            books("new", x, f, false);
            books("new", x, f, true);
            Check.due("no heap: one way", x.turns(f), 1);
            Check.due("no heap", x.turned(f, 0), UNKNOWN);
            Check.due("nothing seen", x.seen(f, 11, NONE), NONE);
        }
        Check.due("new size", x.size(4), 4);
        Check.due("new count(3)", x.count(3), 0);
        Check.due("new count(4)", x.count(4), 0);
    }

    private static void sheetsCome() {
        PressSheets x = sheets(5, 0, 1, 2, 3, 4, 5, 6, 7, 8, 9, 0, 1);
        Check.due("there are 12", x.sheet(5, 2), STATE);
        Check.due("kind ahead of 12", x.sheet(5, 10), OUTSIDE);
        Check.due("another forme", x.sheet(4, 2), 1);
        Check.due("count", x.count(3), 13);
        x.size(12);
        books("as they were", x, 5, true, 0, 1, 2, 3, 4, 5, 6, 7, 8, 9, 0, 1);
    }

    private static void sizeAnswersWhatItWas() {
        PressSheets x = new PressSheets();
        Check.due("4 at first", x.size(12), 4);
        for (int bad : Check.NOWHERE) {
            Check.due("size", x.size(bad), OUTSIDE);
        }
        Check.due("0", x.size(0), OUTSIDE);
        Check.due("13", x.size(13), OUTSIDE);
        Check.due("12 stays", x.size(1), 12);
        Check.due("1", x.size(1), 1);
    }

    private static void seenAnswersWhatItHad() {
        PressSheets x = new PressSheets();
        Check.due("nothing", x.seen(0, 11, 9), NONE);
        Check.due("9", x.seen(0, 11, 0), 9);
        Check.due("another forme", x.seen(1, 11, 3), NONE);
        Check.due("two have seen", x.count(4), 2);
        for (int bad : Check.NOWHERE) {
            Check.due("forme", x.seen(bad, 0, 1), UNKNOWN);
            Check.due("book", x.seen(0, bad, 1), UNKNOWN);
            Check.due("book ahead of kind", x.seen(0, bad, 55), UNKNOWN);
            if (bad != NONE) {
                Check.due("kind", x.seen(0, 11, bad), OUTSIDE);
            }
        }
        Check.due("book 12", x.seen(0, 12, 1), UNKNOWN);
        Check.due("kind 10", x.seen(0, 11, 10), OUTSIDE);
        Check.due("0 stays", x.seen(0, 11, NONE), 0);
        Check.due("one has seen", x.count(4), 1);
    }

    private static void boundFromTheTop() {
        PressSheets x = sheets(0, 1, 2, 3, 4, 5, 6);
        books("heaps of 4", x, 0, false, 4, 3, 2, 1, 6, 5);
        books("all turned", x, 0, true, 1, 2, 3, 4, 5, 6);
        x.size(5);
        books("heaps of 5", x, 0, false, 5, 4, 3, 2, 1, 6);
        x.size(6);
        books("one heap", x, 0, false, 6, 5, 4, 3, 2, 1);
        x.size(12);
        books("a heap that is not full", x, 0, false, 6, 5, 4, 3, 2, 1);
        x.sheet(0, 7);
        books("one more on the top", x, 0, false, 7, 6, 5, 4, 3, 2, 1);
        books("another forme", x, 1, false);
    }

    private static void turnedOfAHeap() {
        PressSheets x = sheets(2, 1, 2, 3, 4, 5, 6);
        Check.due("both", x.turned(2, 0), 3);
        x.seen(2, 0, 4);
        Check.due("not turned", x.turned(2, 0), 1);
        x.seen(2, 0, 1);
        Check.due("turned", x.turned(2, 0), 2);
        x.seen(2, 0, 9);
        Check.due("neither", x.turned(2, 0), 0);
        Check.due("the other heap", x.turned(2, 1), 3);
        x.seen(2, 0, 1);
        x.seen(2, 1, 3);
        Check.due("two books that differ", x.turned(2, 0), 0);
        x.seen(2, 5, 5);
        Check.due("last heap not turned", x.turned(2, 1), 1);
        Check.due("no heap 2", x.turned(2, 2), UNKNOWN);
        Check.due("another forme has none", x.turned(0, 0), UNKNOWN);
        x.size(6);
        Check.due("one heap", x.turned(2, 1), UNKNOWN);
    }

    private static void turnsAreWays() {
        PressSheets x = sheets(1, 1, 2, 3, 4, 5, 6, 7, 8, 9);
        Check.due("three heaps", x.turns(1), 8);
        x.seen(1, 4, 5);
        Check.due("one is told", x.turns(1), 4);
        x.seen(1, 11, 0);
        Check.due("a book that has no sheet", x.turns(1), 4);
        x.seen(1, 0, 7);
        Check.due("none", x.turns(1), 0);
        x.size(12);
        x.seen(1, 0, 9);
        Check.due("one heap, not turned", x.turns(1), 1);
        x.seen(1, 4, 6);
        Check.due("one heap, none", x.turns(1), 0);
        x.sheet(1, 6);
        Check.due("one more sheet, none", x.turns(1), 0);
        Check.due("another forme", x.turns(0), 1);
    }

    private static void heapsOfOne() {
        PressSheets x = sheets(3, 1, 1, 1, 1, 1, 1, 1, 1, 1, 1, 1, 1);
        x.size(1);
        Check.due("twelve heaps", x.turns(3), 4096);
        Check.due("the last of them", x.turned(3, 11), 3);
        Check.due("no thirteenth", x.turned(3, 12), UNKNOWN);
        x.seen(3, 11, 2);
        Check.due("neither", x.turned(3, 11), 0);
        Check.due("no way", x.turns(3), 0);
        x.seen(3, 11, 1);
        Check.due("a heap of one may be both", x.turned(3, 11), 3);
        Check.due("all ways", x.turns(3), 4096);
    }

    private static void refusals() {
        PressSheets x = sheets(0, 1, 2);
        for (int bad : Check.NOWHERE) {
            Check.due("sheet forme", x.sheet(bad, 0), UNKNOWN);
            Check.due("sheet both", x.sheet(bad, 10), UNKNOWN);
            Check.due("sheet kind", x.sheet(0, bad), OUTSIDE);
            Check.due("turns", x.turns(bad), UNKNOWN);
            Check.due("turned forme", x.turned(bad, 0), UNKNOWN);
            Check.due("turned heap", x.turned(0, bad), UNKNOWN);
            Check.due("bound forme", x.bound(bad, 0, true), UNKNOWN);
            Check.due("bound book", x.bound(0, bad, false), UNKNOWN);
        }
        Check.due("forme 6", x.sheet(6, 0), UNKNOWN);
        Check.due("kind 10", x.sheet(0, 10), OUTSIDE);
        Check.due("book 12", x.bound(0, 12, false), UNKNOWN);
        Check.due("book 11", x.bound(0, 11, false), NONE);
        Check.due("no more sheets", x.count(3), 2);
    }
}
