/**
 * "A call that throws changes nothing.": two objects see the same calls, one of them also every sort of call that
 * is refused; from then on both must answer alike, also where an answer comes from what can't be asked for (the order
 * of the accesses and of the coming, the trees, the row).
 */
public final class RefusedCallsTest {
    private static final int[][] SHAPES = {{1, 3, 0, 0}, {0, 4, 1, 1}, {1, 4, 2, 0}};
    private static final int[] ROW = {0, 2, 4, 1, 0, 6, 3, 8, 2, 10, 5, 4, 12, 7, 0, 14, 9, 2, 11, 6};
    private static final Checks checks = new Checks();

    public static void main(String[] args) {
        checks.sentence("A call that throws changes nothing.");
        refusedOnANewObject();
        for (int calls = 0; calls < ROW.length; calls++) {
            refusedAfter(calls);
        }
        refusedBetweenAll();
        refusedMakeMakesNone();
        refusedMakeKeepsTheOldOne();
        refusedAccessIsNotKept();
        refusedAccessAfter400();
        checks.end("RefusedCallsTest");
    }

    private static void refusedOnANewObject() {
        CacheYard x = new CacheYard();
        refuseMakes(x);
        refuseAccesses(x);
        refuseQuestions(x);
        CacheYard y = new CacheYard();
        makeShapes(x);
        makeShapes(y);
        step(x, y, 0, ROW.length);
        compare(x, y);
    }

    /** The row is cut at every access once, so that every state of it meets the refused calls. */
    private static void refusedAfter(int calls) {
        CacheYard x = new CacheYard();
        CacheYard y = new CacheYard();
        makeShapes(x);
        makeShapes(y);
        step(x, y, 0, calls);
        refuseMakes(x);
        refuseAccesses(x);
        refuseQuestions(x);
        refuseOfMadeOnes(x);
        compare(x, y);
        step(x, y, calls, ROW.length);
        compare(x, y);
    }

    private static void refusedBetweenAll() {
        CacheYard x = new CacheYard();
        CacheYard y = new CacheYard();
        makeShapes(x);
        makeShapes(y);
        for (int i = 0; i < ROW.length; i++) {
            step(x, y, i, i + 1);
            refuseAccesses(x);
            checks.dueThrow("flush(3)", Checks.NO_ELEMENT, () -> x.flush(3));
            checks.dueThrow("make of a tree of 3", Checks.ILLEGAL, () -> x.make(2, 1, 3, 2, 0));
        }
        compare(x, y);
    }

    private static void refusedMakeMakesNone() {
        CacheYard x = new CacheYard();
        for (int i = 0; i <= 3; i++) {
            int cache = i;
            checks.dueThrow("wrong S", Checks.ILLEGAL, () -> x.make(cache, 5, 1, 0, 0));
            checks.dueThrow("wrong W", Checks.ILLEGAL, () -> x.make(cache, 0, 9, 0, 0));
            checks.dueThrow("wrong kind", Checks.ILLEGAL, () -> x.make(cache, 0, 1, 3, 0));
            checks.dueThrow("wrong tree", Checks.ILLEGAL, () -> x.make(cache, 0, 6, 2, 0));
            checks.dueThrow("wrong bits", Checks.ILLEGAL, () -> x.make(cache, 0, 1, 0, 7));
            checks.dueThrow("so there is none", Checks.NO_ELEMENT, () -> x.about(cache, 4));
        }
        checks.due("none sees an access", x.access(0, false), 0);
        checks.due("none hits", x.access(0, false), 0);
    }

    private static void refusedMakeKeepsTheOldOne() {
        CacheYard x = new CacheYard();
        x.make(1, 0, 4, 2, 0);
        Checks.write(x, 10, 11, 12, 13);
        x.access(11, false);
        refuseMakes(x);
        checks.dueSet(x, 1, 0, 10, 11, 12, 13);
        checks.dueAbout(x, 1, 1, 4, 0, 0, 4, 4);
        checks.dueThrow("its places", Checks.OUT_OF_BOUNDS, () -> x.place(1, 0, 4, 0));
        checks.dueThrow("its sets", Checks.OUT_OF_BOUNDS, () -> x.place(1, 1, 0, 0));
        Checks.read(x, 14, 15);
        checks.dueSet(x, 1, 0, 15, 11, 14, 13);
        checks.dueAbout(x, 1, 1, 6, 2, 2, 4, 2);
    }

    private static void refusedAccessIsNotKept() {
        CacheYard x = new CacheYard();
        x.make(0, 0, 2, 0, 6);
        Checks.read(x, 64, 0);
        // Cut to their lowest bits these would be 4095 and 0, and so make block 0 the latest and dirty.
        refuseAccesses(x);
        checks.due("accesses()", x.accesses(), 2);
        checks.dueAbout(x, 0, 0, 2, 0, 0, 2, 0);
        checks.due("curve(64, 6)", x.curve(64, 6), 0);
        checks.due("best(64, 6)", x.best(64, 6), 0);
        x.access(64, false);
        checks.due("curve(2, 6)", x.curve(2, 6), 1);
        x.access(128, false);
        checks.dueSet(x, 0, 0, 1, 2);
    }

    private static void refusedAccessAfter400() {
        CacheYard x = new CacheYard();
        x.make(0, 0, 2, 0, 0);
        for (int i = 0; i < 400; i++) {
            x.access(i % 2, false);
        }
        checks.dueThrow("a block that would hit", Checks.UNSUPPORTED, () -> x.access(0, true));
        checks.dueThrow("a block that would come", Checks.UNSUPPORTED, () -> x.access(9, true));
        checks.due("accesses()", x.accesses(), 400);
        checks.dueSet(x, 0, 0, 0, 1);
        checks.dueAbout(x, 0, 398, 2, 0, 0, 2, 0);
        checks.due("curve(64, 0)", x.curve(64, 0), 398);
        checks.due("best(64, 0)", x.best(64, 0), 398);
        checks.due("flush(0)", x.flush(0), 0);
    }

    private static void makeShapes(CacheYard x) {
        for (int cache = 0; cache < SHAPES.length; cache++) {
            int[] shape = SHAPES[cache];
            x.make(cache, shape[0], shape[1], shape[2], shape[3]);
        }
    }

    private static void step(CacheYard x, CacheYard y, int from, int to) {
        for (int i = from; i < to; i++) {
            boolean writes = i % 3 == 0;
            checks.due("access " + i, x.access(ROW[i], writes), y.access(ROW[i], writes));
        }
    }

    private static void refuseMakes(CacheYard x) {
        int[][] wrong = {
            {-1, 0, 1, 0, 0}, {4, 0, 1, 0, 0}, {0, -1, 1, 0, 0}, {0, 5, 1, 0, 0}, {1, 0, 0, 0, 0}, {1, 0, 9, 0, 0},
            {1, 0, 1, -1, 0}, {1, 0, 1, 3, 0}, {2, 0, 3, 2, 0}, {2, 0, 6, 2, 0}, {2, 0, 1, 0, -1}, {2, 0, 1, 0, 7},
        };
        for (int[] a : wrong) {
            checks.dueThrow("make", Checks.ILLEGAL, () -> x.make(a[0], a[1], a[2], a[3], a[4]));
        }
    }

    private static void refuseAccesses(CacheYard x) {
        checks.dueThrow("access(-1)", Checks.ILLEGAL, () -> x.access(-1, true));
        checks.dueThrow("access(4096)", Checks.ILLEGAL, () -> x.access(4096, true));
    }

    private static void refuseQuestions(CacheYard x) {
        checks.dueThrow("flush(3)", Checks.NO_ELEMENT, () -> x.flush(3));
        checks.dueThrow("flush(-1)", Checks.NO_ELEMENT, () -> x.flush(-1));
        checks.dueThrow("place(3)", Checks.NO_ELEMENT, () -> x.place(3, 0, 0, 0));
        checks.dueThrow("about(3)", Checks.NO_ELEMENT, () -> x.about(3, 0));
        checks.dueThrow("curve(0, 0)", Checks.ILLEGAL, () -> x.curve(0, 0));
        checks.dueThrow("curve(1, 7)", Checks.ILLEGAL, () -> x.curve(1, 7));
        checks.dueThrow("best(65, 0)", Checks.ILLEGAL, () -> x.best(65, 0));
        checks.dueThrow("best(1, -1)", Checks.ILLEGAL, () -> x.best(1, -1));
    }

    private static void refuseOfMadeOnes(CacheYard x) {
        for (int i = 0; i < SHAPES.length; i++) {
            int cache = i;
            checks.dueThrow("no such set", Checks.OUT_OF_BOUNDS, () -> x.place(cache, 2, 0, 0));
            checks.dueThrow("no such place", Checks.OUT_OF_BOUNDS, () -> x.place(cache, 0, 4, 0));
            checks.dueThrow("no such what", Checks.ILLEGAL, () -> x.place(cache, 0, 0, 2));
            checks.dueThrow("no such what", Checks.ILLEGAL, () -> x.about(cache, 6));
        }
    }

    private static void compare(CacheYard x, CacheYard y) {
        checks.due("accesses()", x.accesses(), y.accesses());
        for (int cache = 0; cache < SHAPES.length; cache++) {
            for (int what = 0; what <= 5; what++) {
                checks.due("about(" + cache + ", " + what + ")", x.about(cache, what), y.about(cache, what));
            }
            comparePlaces(x, y, cache);
        }
        checks.dueThrow("still no cache 3", Checks.NO_ELEMENT, () -> x.about(3, 0));
        for (int lines = 1; lines <= 4; lines++) {
            checks.due("curve(" + lines + ", 0)", x.curve(lines, 0), y.curve(lines, 0));
            checks.due("best(" + lines + ", 1)", x.best(lines, 1), y.best(lines, 1));
        }
    }

    private static void comparePlaces(CacheYard x, CacheYard y, int cache) {
        for (int set = 0; set < 1 << SHAPES[cache][0]; set++) {
            for (int place = 0; place < SHAPES[cache][1]; place++) {
                String at = cache + ", " + set + ", " + place;
                checks.due("place(" + at + ", 0)", x.place(cache, set, place, 0), y.place(cache, set, place, 0));
                checks.due("place(" + at + ", 1)", x.place(cache, set, place, 1), y.place(cache, set, place, 1));
            }
        }
    }
}
