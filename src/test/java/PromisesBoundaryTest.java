import java.util.Arrays;

/** The boundary cases of the document's promises 1 to 7, sentence by sentence; 8 and 9 are in RowBoundaryTest. */
public final class PromisesBoundaryTest {
    private static final int[][] FULL_SHAPES = {{4, 8, 0}, {4, 8, 1}, {4, 8, 2}};
    private static final Checks checks = new Checks();

    public static void main(String[] args) {
        checks.sentence("NONE = -1");
        checks.due("NONE", CacheYard.NONE, -1);
        newObject();
        newObjectsAreApart();
        madeIsEmpty();
        madeInPlaceOfTheOldOne();
        madeSmallerAndLarger();
        nothingIsWrittenBackByMake();
        madeWithTurnedTrees();
        makeRefusesEachArgument();
        aBitForEachCache();
        accessRefusesAddresses();
        accessRefusesAfter400();
        otherCallsAfter400();
        allBlocksGo();
        treesPointToTheLeftAgain();
        howManyAreWrittenBack();
        flushRefusesCaches();
        placeTellsTheBlock();
        placeTellsTheDirt();
        placeRefuses();
        aboutSinceItWasMade();
        aboutOfAnEmptyAndOfAFullOne();
        writtenBackByFlushToo();
        aboutRefuses();
        howManyAccesses();
        usedFor512Calls();
        checks.end("PromisesBoundaryTest");
    }

    private static void newObject() {
        checks.sentence("No caches, no accesses.");
        CacheYard x = new CacheYard();
        checks.due("accesses()", x.accesses(), 0);
        for (int i = 0; i <= 3; i++) {
            int cache = i;
            checks.dueThrow("about(" + cache + ")", Checks.NO_ELEMENT, () -> x.about(cache, 0));
        }
        checks.due("no cache hits", x.access(0, false), 0);
        checks.due("not the second time either", x.access(0, false), 0);
    }

    private static void newObjectsAreApart() {
        checks.sentence("No caches, no accesses.");
        CacheYard x = new CacheYard();
        x.make(0, 0, 1, 0, 0);
        x.access(0, true);
        CacheYard y = new CacheYard();
        checks.due("accesses() of the next one", y.accesses(), 0);
        checks.dueThrow("about of the next one", Checks.NO_ELEMENT, () -> y.about(0, 0));
        y.make(0, 0, 1, 0, 0);
        checks.due("the next one's cache is empty", y.place(0, 0, 0, 0), -1);
        checks.due("the first one's is not", x.place(0, 0, 0, 0), 0);
    }

    private static void madeIsEmpty() {
        checks.sentence("A cache is made, empty");
        for (int kind = 0; kind <= 2; kind++) {
            CacheYard x = new CacheYard();
            // These accesses were before the cache, so they are none of its own.
            Checks.write(x, 0, 1, 2);
            x.make(0, 4, 8, kind, 0);
            dueEmpty(x, 0, 16, 8);
            checks.dueAbout(x, 0, 0, 0, 0, 0, 0, 0);
            checks.due("a first access misses", x.access(0, false), 0);
        }
    }

    private static void madeInPlaceOfTheOldOne() {
        checks.sentence("in place of the one that there was");
        for (int[] shape : FULL_SHAPES) {
            CacheYard x = new CacheYard();
            x.make(0, shape[0], shape[1], shape[2], 0);
            x.make(1, 0, 2, 0, 0);
            for (int i = 0; i < 130; i++) {
                x.access(i, true);
            }
            x.make(0, shape[0], shape[1], shape[2], 0);
            dueEmpty(x, 0, 16, 8);
            checks.dueAbout(x, 0, 0, 0, 0, 0, 0, 0);
            checks.dueAbout(x, 1, 0, 130, 128, 128, 2, 2);
            checks.due("accesses()", x.accesses(), 130);
            checks.due("only the other hits", x.access(129, false), 2);
        }
    }

    private static void madeSmallerAndLarger() {
        checks.sentence("in place of the one that there was");
        CacheYard x = new CacheYard();
        x.make(3, 4, 8, 0, 0);
        for (int i = 0; i < 128; i++) {
            x.access(i, true);
        }
        x.make(3, 0, 1, 1, 6);
        checks.dueThrow("a second place", Checks.OUT_OF_BOUNDS, () -> x.place(3, 0, 1, 0));
        checks.dueThrow("a second set", Checks.OUT_OF_BOUNDS, () -> x.place(3, 1, 0, 0));
        checks.dueAbout(x, 3, 0, 0, 0, 0, 0, 0);
        x.access(4095, true);
        checks.dueSet(x, 3, 0, 63);
        checks.dueAbout(x, 3, 0, 1, 0, 0, 1, 1);
        x.make(3, 4, 8, 2, 0);
        dueEmpty(x, 3, 16, 8);
        checks.dueAbout(x, 3, 0, 0, 0, 0, 0, 0);
    }

    private static void nothingIsWrittenBackByMake() {
        checks.sentence("nothing is written back");
        CacheYard x = new CacheYard();
        x.make(0, 0, 1, 0, 0);
        Checks.write(x, 1, 2);
        checks.due("before", x.about(0, 3), 1);
        x.make(0, 0, 1, 0, 0);
        checks.due("made anew", x.about(0, 3), 0);
        Checks.read(x, 1, 2);
        checks.due("the old dirt is no more", x.about(0, 3), 0);
        checks.due("flush(0)", x.flush(0), 0);
    }

    private static void madeWithTurnedTrees() {
        checks.sentence("each node above leaves points to the left or right half of its places, to the left at first");
        CacheYard x = new CacheYard();
        x.make(0, 1, 8, 2, 0);
        Checks.read(x, 0, 2, 4, 6, 8, 10, 12, 14, 0);
        x.make(0, 1, 4, 2, 0);
        Checks.read(x, 0, 2, 4, 6, 8);
        checks.dueSet(x, 0, 0, 8, 2, 4, 6);
        checks.dueSet(x, 0, 1, -1, -1, -1, -1);
    }

    private static void makeRefusesEachArgument() {
        checks.sentence("IllegalArgumentException if there is no such cache, or one of the others is not as it must be");
        // What is right stands at its least or its most, so that only the wrong one can be the cause.
        int[] least = {0, 0, 1, 0, 0};
        int[] most = {3, 4, 8, 2, 6};
        CacheYard x = new CacheYard();
        for (int[] right : new int[][] {least, most}) {
            x.make(right[0], right[1], right[2], right[3], right[4]);
            checks.due("the edge is right", x.about(right[0], 4), 0);
            for (int i = 0; i < right.length; i++) {
                for (int wrong : Checks.outside(least[i], most[i])) {
                    int[] a = right.clone();
                    a[i] = wrong;
                    String call = "argument " + i + " " + wrong;
                    checks.dueThrow(call, Checks.ILLEGAL, () -> x.make(a[0], a[1], a[2], a[3], a[4]));
                }
            }
        }
        checks.dueThrow("all are wrong", Checks.ILLEGAL, () -> x.make(4, 5, 9, 3, 7));
        checks.dueThrow("S 32", Checks.ILLEGAL, () -> x.make(0, 32, 1, 0, 0));
        checks.dueThrow("bits 32", Checks.ILLEGAL, () -> x.make(0, 0, 1, 0, 32));
    }

    private static void aBitForEachCache() {
        checks.sentence("An access: a bit for each cache that hits.");
        for (int hitting = 0; hitting < 16; hitting++) {
            CacheYard x = new CacheYard();
            for (int cache = 0; cache <= 3; cache++) {
                x.make(cache, 0, 1, cache % 3, 0);
            }
            checks.due("all are empty", x.access(4095, true), 0);
            for (int cache = 0; cache <= 3; cache++) {
                if ((hitting >> cache & 1) == 0) {
                    x.flush(cache);
                }
            }
            checks.due("a read", x.access(4095, false), hitting);
            checks.due("a write, and all have it", x.access(4095, true), 15);
        }
    }

    private static void accessRefusesAddresses() {
        checks.sentence("IllegalArgumentException if there is no such address");
        CacheYard x = new CacheYard();
        x.make(0, 4, 8, 0, 6);
        for (int wrong : Checks.outside(0, 4095)) {
            checks.dueThrow("access(" + wrong + ")", Checks.ILLEGAL, () -> x.access(wrong, true));
        }
        checks.due("access(4095)", x.access(4095, false), 0);
        checks.due("access(0)", x.access(0, false), 0);
    }

    private static void accessRefusesAfter400() {
        checks.sentence("UnsupportedOperationException if there are 400.");
        CacheYard x = new CacheYard();
        for (int i = 0; i < 399; i++) {
            x.access(i, false);
        }
        checks.due("there are 399", x.access(4095, false), 0);
        checks.dueThrow("there are 400", Checks.UNSUPPORTED, () -> x.access(0, false));
        checks.dueThrow("and a write", Checks.UNSUPPORTED, () -> x.access(4095, true));
        checks.dueThrow("and again", Checks.UNSUPPORTED, () -> x.access(0, false));
        // Of two that fit, the one that the document names first.
        checks.dueThrow("no such address either", Checks.ILLEGAL, () -> x.access(4096, false));
        checks.dueThrow("nor this one", Checks.ILLEGAL, () -> x.access(-1, true));
    }

    private static void otherCallsAfter400() {
        checks.sentence("UnsupportedOperationException if there are 400.");
        CacheYard x = new CacheYard();
        x.make(0, 4, 8, 1, 0);
        for (int i = 0; i < 400; i++) {
            x.access(i, true);
        }
        checks.dueAbout(x, 0, 0, 400, 272, 272, 128, 128);
        checks.due("place(0, 15, 0, 0)", x.place(0, 15, 0, 0), 399);
        checks.due("flush(0)", x.flush(0), 128);
        x.make(1, 0, 1, 0, 0);
        checks.due("one that is made now", x.about(1, 4), 0);
        x.make(0, 0, 1, 0, 0);
        checks.dueThrow("a make gives no room", Checks.UNSUPPORTED, () -> x.access(0, false));
        checks.due("accesses()", x.accesses(), 400);
        checks.due("curve(64, 6)", x.curve(64, 6), 393);
        checks.due("best(64, 6)", x.best(64, 6), 393);
    }

    private static void allBlocksGo() {
        checks.sentence("All blocks go from a cache");
        for (int[] shape : FULL_SHAPES) {
            CacheYard x = new CacheYard();
            x.make(2, shape[0], shape[1], shape[2], 0);
            x.make(3, shape[0], shape[1], shape[2], 0);
            for (int i = 0; i < 128; i++) {
                x.access(i, i % 2 == 0);
            }
            checks.due("flush(2)", x.flush(2), 64);
            dueEmpty(x, 2, 16, 8);
            checks.dueAbout(x, 2, 0, 128, 0, 64, 0, 0);
            checks.dueAbout(x, 3, 0, 128, 0, 0, 128, 64);
            checks.due("only the other hits", x.access(127, false), 8);
            checks.dueSet(x, 2, 15, 127, -1);
        }
    }

    private static void treesPointToTheLeftAgain() {
        checks.sentence("(the trees point to the left again)");
        for (int turned = 0; turned < 8; turned++) {
            CacheYard x = new CacheYard();
            x.make(0, 0, 8, 2, 0);
            Checks.read(x, 0, 1, 2, 3, 4, 5, 6, 7, turned);
            x.flush(0);
            Checks.read(x, 10, 11, 12, 13, 14, 15, 16, 17, 20, 21, 22, 23, 24);
            checks.dueSet(x, 0, 0, 20, 24, 22, 13, 21, 15, 23, 17);
        }
    }

    private static void howManyAreWrittenBack() {
        checks.sentence("how many are written back");
        CacheYard x = new CacheYard();
        x.make(0, 4, 8, 0, 0);
        checks.due("of an empty one", x.flush(0), 0);
        x.access(5, false);
        checks.due("of a clean one", x.flush(0), 0);
        Checks.write(x, 5, 5);
        checks.due("of one that was written twice", x.flush(0), 1);
        checks.due("of one that was flushed", x.flush(0), 0);
        for (int i = 0; i < 129; i++) {
            x.access(i, true);
        }
        // One of the 129 went as a victim, and was written back then.
        checks.due("of one full of dirty ones", x.flush(0), 128);
    }

    private static void flushRefusesCaches() {
        checks.sentence("flush: NoSuchElementException if there is no such cache.");
        CacheYard x = new CacheYard();
        checks.dueThrow("flush(0) of none", Checks.NO_ELEMENT, () -> x.flush(0));
        x.make(1, 0, 1, 0, 0);
        checks.dueThrow("one below", Checks.NO_ELEMENT, () -> x.flush(0));
        checks.dueThrow("one above", Checks.NO_ELEMENT, () -> x.flush(2));
        for (int wrong : Checks.outside(0, 3)) {
            checks.dueThrow("flush(" + wrong + ")", Checks.NO_ELEMENT, () -> x.flush(wrong));
        }
        checks.due("flush(1)", x.flush(1), 0);
    }

    private static void placeTellsTheBlock() {
        checks.sentence("The block at a place of a set of a cache (what = 0; NONE if it is empty)");
        CacheYard x = new CacheYard();
        x.make(0, 4, 8, 0, 0);
        checks.due("empty, the first", x.place(0, 0, 0, 0), CacheYard.NONE);
        checks.due("empty, the last", x.place(0, 15, 7, 0), CacheYard.NONE);
        for (int i = 0; i < 128; i++) {
            x.access(4095 - i, false);
        }
        checks.due("the last block at a first place", x.place(0, 15, 0, 0), 4095);
        checks.due("the last place of set 0", x.place(0, 0, 7, 0), 3968);
        checks.due("the last place of the last set", x.place(0, 15, 7, 0), 3983);
        x.make(1, 0, 1, 0, 6);
        x.access(63, false);
        checks.due("block 0 is a block", x.place(1, 0, 0, 0), 0);
    }

    private static void placeTellsTheDirt() {
        checks.sentence("whether it is dirty (1)");
        CacheYard x = new CacheYard();
        x.make(0, 4, 8, 0, 0);
        checks.due("of an empty place", x.place(0, 15, 7, 1), 0);
        for (int i = 0; i < 128; i++) {
            x.access(i, i == 127);
        }
        checks.due("of a dirty one at the last place", x.place(0, 15, 7, 1), 1);
        checks.due("of the clean one before it", x.place(0, 15, 6, 1), 0);
        checks.due("of the clean one in the set before it", x.place(0, 14, 7, 1), 0);
        x.flush(0);
        checks.due("of a place that has become empty", x.place(0, 15, 7, 1), 0);
    }

    private static void placeRefuses() {
        CacheYard x = new CacheYard();
        x.make(1, 4, 8, 0, 0);
        x.make(2, 0, 1, 0, 0);
        checks.sentence("place: NoSuchElementException if there is no such cache");
        for (int wrong : new int[] {-1, 0, 3, 4, Integer.MIN_VALUE, Integer.MAX_VALUE}) {
            checks.dueThrow("cache " + wrong, Checks.NO_ELEMENT, () -> x.place(wrong, 0, 0, 0));
            checks.dueThrow("cache " + wrong + ", and all else", Checks.NO_ELEMENT, () -> x.place(wrong, -1, 8, 2));
        }
        checks.sentence("IndexOutOfBoundsException if it has no such set or place");
        checks.due("the last of a large one", x.place(1, 15, 7, 0), -1);
        checks.due("the only one of a small one", x.place(2, 0, 0, 0), -1);
        dueOutside(x, 1, 16, 8);
        dueOutside(x, 2, 1, 1);
        checks.sentence("place: IllegalArgumentException for another what");
        for (int wrong : Checks.outside(0, 1)) {
            checks.dueThrow("what " + wrong, Checks.ILLEGAL, () -> x.place(1, 15, 7, wrong));
            checks.dueThrow("what " + wrong, Checks.ILLEGAL, () -> x.place(2, 0, 0, wrong));
        }
    }

    private static void dueOutside(CacheYard x, int cache, int sets, int places) {
        for (int wrong : Checks.outside(0, sets - 1)) {
            checks.dueThrow("set " + wrong, Checks.OUT_OF_BOUNDS, () -> x.place(cache, wrong, 0, 0));
            checks.dueThrow("set " + wrong + ", and what", Checks.OUT_OF_BOUNDS, () -> x.place(cache, wrong, 0, 2));
        }
        for (int wrong : Checks.outside(0, places - 1)) {
            checks.dueThrow("place " + wrong, Checks.OUT_OF_BOUNDS, () -> x.place(cache, 0, wrong, 1));
            checks.dueThrow("place " + wrong + ", and what", Checks.OUT_OF_BOUNDS, () -> x.place(cache, 0, wrong, -1));
        }
        // Set and place make one index only if both are looked at on their own.
        checks.dueThrow("one set more, a place less", Checks.OUT_OF_BOUNDS, () -> x.place(cache, 1, -1, 0));
        checks.dueThrow("one set less, a place more", Checks.OUT_OF_BOUNDS, () -> x.place(cache, -1, places, 0));
    }

    private static void aboutSinceItWasMade() {
        checks.sentence("Of a cache since it was made");
        CacheYard x = new CacheYard();
        Checks.write(x, 1, 1);
        x.make(0, 0, 1, 0, 0);
        checks.dueAbout(x, 0, 0, 0, 0, 0, 0, 0);
        Checks.write(x, 1, 1, 2);
        checks.dueAbout(x, 0, 1, 2, 1, 1, 1, 1);
        x.make(0, 0, 1, 0, 0);
        checks.dueAbout(x, 0, 0, 0, 0, 0, 0, 0);
        Checks.read(x, 2, 2);
        checks.dueAbout(x, 0, 1, 1, 0, 0, 1, 0);
    }

    private static void aboutOfAnEmptyAndOfAFullOne() {
        checks.sentence("4 how many it has, 5 how many of them are dirty");
        CacheYard x = new CacheYard();
        x.make(0, 4, 8, 2, 0);
        checks.dueAbout(x, 0, 0, 0, 0, 0, 0, 0);
        for (int i = 0; i < 128; i++) {
            x.access(i, true);
        }
        checks.dueAbout(x, 0, 0, 128, 0, 0, 128, 128);
        x.access(128, false);
        checks.dueAbout(x, 0, 0, 129, 1, 1, 128, 127);
        x.access(128, true);
        checks.dueAbout(x, 0, 1, 129, 1, 1, 128, 128);
        x.flush(0);
        checks.dueAbout(x, 0, 1, 129, 1, 129, 0, 0);
    }

    private static void writtenBackByFlushToo() {
        checks.sentence("3 blocks written back (by flush(), too)");
        CacheYard x = new CacheYard();
        x.make(0, 0, 2, 1, 0);
        Checks.write(x, 1, 2, 3);
        checks.due("by a victim", x.about(0, 3), 1);
        x.flush(0);
        checks.due("and by flush()", x.about(0, 3), 3);
        x.flush(0);
        checks.due("none by a second flush()", x.about(0, 3), 3);
        checks.due("a flush has no victims", x.about(0, 2), 1);
        x.access(1, true);
        x.flush(0);
        checks.due("and by a third one", x.about(0, 3), 4);
    }

    private static void aboutRefuses() {
        CacheYard x = new CacheYard();
        x.make(1, 0, 1, 0, 0);
        checks.sentence("about: NoSuchElementException if there is no such cache");
        for (int wrong : new int[] {-1, 0, 2, 3, 4, Integer.MIN_VALUE, Integer.MAX_VALUE}) {
            checks.dueThrow("cache " + wrong, Checks.NO_ELEMENT, () -> x.about(wrong, 0));
            checks.dueThrow("cache " + wrong + ", and what", Checks.NO_ELEMENT, () -> x.about(wrong, 6));
        }
        checks.sentence("about: IllegalArgumentException for another what");
        checks.due("what 0", x.about(1, 0), 0);
        checks.due("what 5", x.about(1, 5), 0);
        for (int wrong : Checks.outside(0, 5)) {
            checks.dueThrow("what " + wrong, Checks.ILLEGAL, () -> x.about(1, wrong));
        }
    }

    private static void howManyAccesses() {
        checks.sentence("How many accesses there were.");
        CacheYard x = new CacheYard();
        checks.due("none", x.accesses(), 0);
        x.access(0, false);
        checks.due("one, without a cache", x.accesses(), 1);
        x.make(0, 0, 1, 0, 0);
        x.make(1, 0, 1, 0, 0);
        x.access(0, true);
        checks.due("two, with two caches", x.accesses(), 2);
        checks.dueThrow("a refused one", Checks.ILLEGAL, () -> x.access(4096, false));
        x.flush(0);
        x.make(1, 0, 1, 0, 0);
        checks.due("still two", x.accesses(), 2);
        for (int i = 2; i < 400; i++) {
            x.access(0, false);
        }
        checks.due("all", x.accesses(), 400);
        checks.dueThrow("one too many", Checks.UNSUPPORTED, () -> x.access(0, false));
        checks.due("not more", x.accesses(), 400);
    }

    private static void usedFor512Calls() {
        checks.sentence("An object is used for at most 512 calls after it has been made");
        CacheYard x = new CacheYard();
        for (int cache = 0; cache <= 3; cache++) {
            x.make(cache, 4, 8, cache % 3, 0);
        }
        for (int i = 0; i < 400; i++) {
            x.access(i % 200, true);
        }
        for (int i = 404; i < 510; i++) {
            checks.due("call " + i, x.curve(1 + i % 64, 0), 0);
        }
        checks.due("call 510", x.accesses(), 400);
        // 200 blocks come round twice: in the second round the 64 that were kept hit, and no more.
        checks.due("call 511", x.best(64, 0), 64);
    }

    private static void dueEmpty(CacheYard x, int cache, int sets, int places) {
        for (int set = 0; set < sets; set++) {
            int[] none = new int[places];
            Arrays.fill(none, CacheYard.NONE);
            checks.dueSet(x, cache, set, none);
            checks.due("dirt of set " + set, x.place(cache, set, places - 1, 1), 0);
        }
    }
}
