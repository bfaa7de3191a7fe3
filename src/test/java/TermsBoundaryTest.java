/** The boundary cases of the document's terms 1 and 2 and of the block VICTIMS, sentence by sentence. */
public final class TermsBoundaryTest {
    private static final Checks checks = new Checks();

    public static void main(String[] args) {
        addressesAre0To4095();
        atMost400AreKept();
        bitsAre0To6();
        blockIsWithoutLowestBits();
        cachesAre0To3();
        noneAtFirst();
        setBitsAre0To4();
        placesAre1To8();
        setIsToldByLowestBits();
        setIsToldByTheBlockNotTheAddress();
        hitsIfItsSetHasTheBlock();
        comesToTheFirstEmptyPlace();
        victimOnlyWithoutAnEmptyPlace();
        comesToTheVictimsPlace();
        writtenIsDirty();
        dirtyUntilItGoes();
        dirtyOneIsWrittenBack();
        latestAccessTheLongestAgo();
        cameTheLongestAgo();
        treeHas1Or2Or4Or8Places();
        treeOfOnePlace();
        treeOfTwoPlaces();
        treeOfFourPlaces();
        treeOfEightPlaces();
        eachSetHasATree();
        checks.end("TermsBoundaryTest");
    }

    private static void addressesAre0To4095() {
        checks.sentence("ADDRESSES are 0 .. 4095");
        CacheYard x = new CacheYard();
        checks.due("access(0)", x.access(0, false), 0);
        checks.due("access(4095)", x.access(4095, true), 0);
        checks.due("both are kept", x.accesses(), 2);
        for (int wrong : Checks.outside(0, 4095)) {
            checks.dueThrow("read of " + wrong, Checks.ILLEGAL, () -> x.access(wrong, false));
            checks.dueThrow("write of " + wrong, Checks.ILLEGAL, () -> x.access(wrong, true));
        }
    }

    private static void atMost400AreKept() {
        checks.sentence("at most 400 of them, numbered from 0, are kept");
        CacheYard x = new CacheYard();
        x.access(7, false);
        for (int i = 1; i < 399; i++) {
            x.access(9, false);
        }
        checks.due("room for one", x.accesses(), 399);
        checks.due("the 400th", x.access(7, false), 0);
        checks.dueThrow("the 401st", Checks.UNSUPPORTED, () -> x.access(7, false));
        checks.due("400 are kept", x.accesses(), 400);
        // The first and the last access are of one block, so both must be in the row for the last hit.
        checks.due("curve(1, 0)", x.curve(1, 0), 397);
        checks.due("curve(2, 0)", x.curve(2, 0), 398);
        checks.due("best(2, 0)", x.best(2, 0), 398);
    }

    private static void bitsAre0To6() {
        checks.sentence("With BITS b, 0 .. 6");
        CacheYard x = new CacheYard();
        Checks.read(x, 64, 127, 127);
        x.make(0, 0, 1, 0, 0);
        x.make(1, 0, 1, 0, 6);
        Checks.read(x, 64, 127);
        checks.due("hits with 0 bits", x.about(0, 0), 0);
        checks.due("hits with 6 bits", x.about(1, 0), 1);
        checks.due("curve(1, 0)", x.curve(1, 0), 1);
        checks.due("curve(1, 6)", x.curve(1, 6), 4);
        checks.due("best(1, 0)", x.best(1, 0), 1);
        checks.due("best(1, 6)", x.best(1, 6), 4);
        for (int wrong : Checks.outside(0, 6)) {
            checks.dueThrow("make with bits " + wrong, Checks.ILLEGAL, () -> x.make(0, 0, 1, 0, wrong));
            checks.dueThrow("curve(1, " + wrong + ")", Checks.ILLEGAL, () -> x.curve(1, wrong));
            checks.dueThrow("best(1, " + wrong + ")", Checks.ILLEGAL, () -> x.best(1, wrong));
        }
    }

    private static void blockIsWithoutLowestBits() {
        checks.sentence("an address's BLOCK is it without its lowest b bits");
        for (int bits = 0; bits <= 6; bits++) {
            CacheYard x = new CacheYard();
            x.make(0, 0, 8, 0, bits);
            int size = 1 << bits;
            checks.due("first address of block 2", x.access(2 * size, false), 0);
            checks.due("last address of block 2", x.access(2 * size + size - 1, false), 1);
            checks.due("one behind it", x.access(3 * size, false), 0);
            checks.due("one before it", x.access(2 * size - 1, false), 0);
            checks.due("the last address", x.access(4095, false), 0);
            checks.due("the first address", x.access(0, false), 0);
            checks.dueSet(x, 0, 0, 2, 3, 1, 4095 / size, 0, -1);
            checks.due("curve(8, " + bits + ")", x.curve(8, bits), 1);
            checks.due("best(8, " + bits + ")", x.best(8, bits), 1);
        }
    }

    private static void cachesAre0To3() {
        checks.sentence("There are CACHES 0 .. 3");
        for (int i = 0; i <= 3; i++) {
            int cache = i;
            CacheYard x = new CacheYard();
            x.make(cache, 0, 1, 0, 0);
            x.access(5, true);
            checks.due("access", x.access(5, false), 1 << cache);
            checks.due("place", x.place(cache, 0, 0, 0), 5);
            checks.due("about", x.about(cache, 0), 1);
            checks.due("flush", x.flush(cache), 1);
        }
        CacheYard x = new CacheYard();
        for (int wrong : Checks.outside(0, 3)) {
            checks.dueThrow("make(" + wrong + ")", Checks.ILLEGAL, () -> x.make(wrong, 0, 1, 0, 0));
            checks.dueThrow("place(" + wrong + ")", Checks.NO_ELEMENT, () -> x.place(wrong, 0, 0, 0));
            checks.dueThrow("about(" + wrong + ")", Checks.NO_ELEMENT, () -> x.about(wrong, 0));
            checks.dueThrow("flush(" + wrong + ")", Checks.NO_ELEMENT, () -> x.flush(wrong));
        }
    }

    private static void noneAtFirst() {
        checks.sentence("CACHES 0 .. 3, none at first");
        for (int made = 0; made <= 3; made++) {
            CacheYard x = new CacheYard();
            x.make(made, 0, 1, 0, 0);
            for (int i = 0; i <= 3; i++) {
                int cache = i;
                if (cache == made) {
                    checks.due("the made one is there", x.about(cache, 4), 0);
                } else {
                    checks.dueThrow("about", Checks.NO_ELEMENT, () -> x.about(cache, 4));
                    checks.dueThrow("place", Checks.NO_ELEMENT, () -> x.place(cache, 0, 0, 0));
                    checks.dueThrow("flush", Checks.NO_ELEMENT, () -> x.flush(cache));
                }
            }
        }
    }

    private static void setBitsAre0To4() {
        checks.sentence("2^S SETS (S 0 .. 4)");
        CacheYard x = new CacheYard();
        for (int setBits = 0; setBits <= 4; setBits++) {
            int sets = 1 << setBits;
            x.make(0, setBits, 8, 0, 0);
            checks.due("the last set of " + sets, x.place(0, sets - 1, 7, 0), -1);
            for (int wrong : Checks.outside(0, sets - 1)) {
                checks.dueThrow("set " + wrong + " of " + sets, Checks.OUT_OF_BOUNDS, () -> x.place(0, wrong, 0, 0));
            }
        }
        for (int wrong : Checks.outside(0, 4)) {
            checks.dueThrow("make with S " + wrong, Checks.ILLEGAL, () -> x.make(0, wrong, 1, 0, 0));
        }
    }

    private static void placesAre1To8() {
        checks.sentence("W PLACES in each (1 .. 8)");
        CacheYard x = new CacheYard();
        for (int kind = 0; kind <= 1; kind++) {
            for (int places = 1; places <= 8; places++) {
                x.make(0, 4, places, kind, 0);
                checks.due("the last place of " + places, x.place(0, 15, places - 1, 0), -1);
                for (int wrong : Checks.outside(0, places - 1)) {
                    checks.dueThrow("place " + wrong, Checks.OUT_OF_BOUNDS, () -> x.place(0, 0, wrong, 0));
                }
            }
        }
        for (int i = 0; i <= 2; i++) {
            int kind = i;
            for (int wrong : Checks.outside(1, 8)) {
                checks.dueThrow("make with W " + wrong, Checks.ILLEGAL, () -> x.make(0, 0, wrong, kind, 0));
            }
            checks.dueThrow("make with W 16", Checks.ILLEGAL, () -> x.make(0, 0, 16, kind, 0));
        }
    }

    private static void setIsToldByLowestBits() {
        checks.sentence("A block's set is told by its lowest S bits");
        for (int setBits = 0; setBits <= 4; setBits++) {
            CacheYard x = new CacheYard();
            x.make(0, setBits, 3, 1, 0);
            int sets = 1 << setBits;
            for (int block = 0; block < sets; block++) {
                x.access(block, false);
            }
            x.access(sets, false);
            x.access(4095, false);
            for (int set = 0; set < sets; set++) {
                checks.due("set " + set, x.place(0, set, 0, 0), set);
            }
            // Behind the last set it goes on with set 0; the last block of all is one of the last set.
            checks.due("the first one again", x.place(0, 0, 1, 0), sets);
            checks.due("the last block", x.place(0, sets - 1, sets == 1 ? 2 : 1, 0), 4095);
        }
    }

    private static void setIsToldByTheBlockNotTheAddress() {
        checks.sentence("A block's set is told by its lowest S bits");
        CacheYard x = new CacheYard();
        x.make(0, 4, 2, 0, 6);
        x.access(15, false);
        checks.dueSet(x, 0, 0, 0, -1);
        x.access(64 * 15, false);
        checks.dueSet(x, 0, 15, 15, -1);
        x.access(64 * 16, false);
        checks.dueSet(x, 0, 0, 0, 16);
        x.access(4095, false);
        checks.dueSet(x, 0, 15, 15, 63);
    }

    private static void hitsIfItsSetHasTheBlock() {
        checks.sentence("if its set has the block, it HITS");
        for (int kind = 0; kind <= 2; kind++) {
            CacheYard x = new CacheYard();
            x.make(2, 0, 8, kind, 0);
            Checks.read(x, 0, 1, 2, 3, 4, 5, 6, 7);
            checks.due("at the last place", x.access(7, false), 4);
            checks.due("at the first place", x.access(0, true), 4);
            checks.dueSet(x, 2, 0, 0, 1, 2, 3, 4, 5, 6, 7);
            checks.dueAbout(x, 2, 2, 8, 0, 0, 8, 1);
            x.make(2, 0, 1, kind, 0);
            checks.due("an empty one", x.access(0, false), 0);
            checks.due("the same at once", x.access(0, false), 4);
        }
    }

    private static void comesToTheFirstEmptyPlace() {
        checks.sentence("the block comes to the set's first place that is empty");
        for (int kind = 0; kind <= 2; kind++) {
            CacheYard x = new CacheYard();
            x.make(0, 1, 4, kind, 0);
            Checks.read(x, 2, 2, 4);
            checks.dueSet(x, 0, 0, 2, 4, -1, -1);
            checks.dueSet(x, 0, 1, -1, -1, -1, -1);
            Checks.read(x, 2, 3, 6);
            checks.dueSet(x, 0, 0, 2, 4, 6, -1);
            checks.dueSet(x, 0, 1, 3, -1, -1, -1);
            x.access(0, false);
            checks.dueSet(x, 0, 0, 2, 4, 6, 0);
        }
    }

    private static void victimOnlyWithoutAnEmptyPlace() {
        checks.sentence("without one a VICTIM goes");
        for (int kind = 0; kind <= 2; kind++) {
            for (int places = 1; places <= 8; places *= 2) {
                CacheYard x = new CacheYard();
                x.make(0, 1, places, kind, 0);
                for (int i = 0; i < places; i++) {
                    x.access(2 * i, false);
                }
                checks.due("full, and none went", x.about(0, 2), 0);
                checks.due("full", x.about(0, 4), places);
                x.access(2 * places, false);
                // The other set is empty all the time, and does not help.
                checks.due("one more", x.about(0, 2), 1);
                checks.due("as many as before", x.about(0, 4), places);
                x.access(1, false);
                checks.due("the other set has room", x.about(0, 2), 1);
                checks.due("and takes it", x.about(0, 4), places + 1);
            }
        }
    }

    private static void comesToTheVictimsPlace() {
        checks.sentence("a VICTIM goes, and it comes to that place");
        CacheYard x = new CacheYard();
        x.make(0, 0, 3, 0, 0);
        Checks.read(x, 1, 2, 3, 1, 4);
        checks.dueSet(x, 0, 0, 1, 4, 3);
        Checks.read(x, 1, 5);
        checks.dueSet(x, 0, 0, 1, 4, 5);
        checks.due("the victim is no more there", x.access(2, false), 0);
    }

    private static void writtenIsDirty() {
        checks.sentence("A block that is written is DIRTY");
        CacheYard x = new CacheYard();
        x.make(0, 0, 2, 1, 6);
        x.access(63, false);
        checks.due("read", x.place(0, 0, 0, 1), 0);
        x.access(64, true);
        checks.due("written when it comes", x.place(0, 0, 1, 1), 1);
        checks.due("only that one", x.place(0, 0, 0, 1), 0);
        x.access(0, true);
        checks.due("written when it hits", x.place(0, 0, 0, 1), 1);
        x.access(128, true);
        checks.due("written when a dirty one goes for it", x.place(0, 0, 0, 1), 1);
    }

    private static void dirtyUntilItGoes() {
        checks.sentence("DIRTY, until it goes");
        CacheYard x = new CacheYard();
        x.make(0, 0, 1, 0, 0);
        Checks.write(x, 1, 1);
        Checks.read(x, 1, 1);
        checks.due("still, after reads", x.place(0, 0, 0, 1), 1);
        x.access(2, false);
        checks.due("the next at its place is clean", x.place(0, 0, 0, 1), 0);
        x.access(1, false);
        checks.due("it comes back clean", x.place(0, 0, 0, 1), 0);
        x.access(1, true);
        x.flush(0);
        checks.due("an empty place", x.place(0, 0, 0, 1), 0);
        x.access(1, false);
        checks.due("clean after a flush", x.place(0, 0, 0, 1), 0);
    }

    private static void dirtyOneIsWrittenBack() {
        checks.sentence("a dirty one is WRITTEN BACK when it goes");
        for (int kind = 0; kind <= 2; kind++) {
            CacheYard x = new CacheYard();
            x.make(0, 0, 1, kind, 0);
            Checks.write(x, 1, 1, 1);
            checks.due("not before it goes", x.about(0, 3), 0);
            x.access(2, false);
            checks.due("once, however often written", x.about(0, 3), 1);
            x.access(3, false);
            checks.due("a clean one is not", x.about(0, 3), 1);
            Checks.write(x, 4, 5);
            checks.due("one for another dirty one", x.about(0, 3), 2);
            checks.due("victims of both sorts", x.about(0, 2), 4);
        }
    }

    private static void latestAccessTheLongestAgo() {
        checks.sentence("KIND 0: the block whose latest access is the longest ago");
        CacheYard x = new CacheYard();
        x.make(0, 0, 8, 0, 0);
        nineComeRoundTwice(x);
        // Now 1 is the oldest; a read, and then a write, spare the oldest one.
        Checks.read(x, 1, 20);
        checks.dueSet(x, 0, 0, 7, 8, 1, 20, 3, 4, 5, 6);
        x.access(3, true);
        x.access(21, false);
        checks.dueSet(x, 0, 0, 7, 8, 1, 20, 3, 21, 5, 6);
    }

    private static void cameTheLongestAgo() {
        checks.sentence("1: the one that came the longest ago");
        CacheYard x = new CacheYard();
        x.make(0, 0, 8, 1, 0);
        nineComeRoundTwice(x);
        // Now 1 is the oldest, and then 2; neither a read nor a write spares them.
        Checks.read(x, 1, 20);
        checks.dueSet(x, 0, 0, 7, 8, 20, 2, 3, 4, 5, 6);
        Checks.write(x, 2, 1);
        checks.dueSet(x, 0, 0, 7, 8, 20, 1, 3, 4, 5, 6);
        // 1 came anew, so that all others go before it.
        Checks.read(x, 30, 31, 32, 33, 34, 35, 36);
        checks.dueSet(x, 0, 0, 34, 35, 36, 1, 30, 31, 32, 33);
        x.access(37, false);
        checks.dueSet(x, 0, 0, 34, 35, 36, 37, 30, 31, 32, 33);
    }

    private static void nineComeRoundTwice(CacheYard x) {
        for (int i = 0; i < 18; i++) {
            checks.due("one place too few", x.access(i % 9, false), 0);
        }
        checks.dueSet(x, 0, 0, 7, 8, 1, 2, 3, 4, 5, 6);
    }

    private static void treeHas1Or2Or4Or8Places() {
        checks.sentence("2 (W 1, 2, 4 or 8)");
        CacheYard x = new CacheYard();
        for (int places : new int[] {1, 2, 4, 8}) {
            x.make(0, 4, places, 2, 0);
            checks.due("the last place of " + places, x.place(0, 15, places - 1, 0), -1);
            for (int wrong : Checks.outside(0, places - 1)) {
                checks.dueThrow("place " + wrong, Checks.OUT_OF_BOUNDS, () -> x.place(0, 0, wrong, 0));
            }
        }
        for (int wrong : new int[] {3, 5, 6, 7}) {
            checks.dueThrow("W " + wrong, Checks.ILLEGAL, () -> x.make(0, 0, wrong, 2, 0));
        }
        // MIN_VALUE has one bit only, as the right ones have.
        checks.dueThrow("W MIN_VALUE", Checks.ILLEGAL, () -> x.make(0, 0, Integer.MIN_VALUE, 2, 0));
    }

    private static void treeOfOnePlace() {
        checks.sentence("the victim is at the place to which one is pointed from the top on");
        CacheYard x = new CacheYard();
        x.make(0, 0, 1, 2, 0);
        x.access(1, false);
        checks.due("hit", x.access(1, false), 1);
        Checks.read(x, 2, 3);
        checks.dueSet(x, 0, 0, 3);
        checks.due("victims", x.about(0, 2), 2);
    }

    private static void treeOfTwoPlaces() {
        checks.sentence("at an access of a place all nodes above it point to the half in which it is not");
        CacheYard x = new CacheYard();
        x.make(0, 0, 2, 2, 0);
        Checks.read(x, 1, 2, 3);
        checks.dueSet(x, 0, 0, 3, 2);
        x.access(4, false);
        checks.dueSet(x, 0, 0, 3, 4);
        Checks.read(x, 3, 5);
        checks.dueSet(x, 0, 0, 3, 5);
        Checks.write(x, 5, 6);
        checks.dueSet(x, 0, 0, 6, 5);
    }

    private static void treeOfFourPlaces() {
        checks.sentence("each node above leaves points to the left or right half of its places");
        CacheYard x = new CacheYard();
        x.make(0, 0, 4, 2, 0);
        Checks.read(x, 10, 11, 12, 13, 10);
        // By the least recent use 11 would go; the top points to the right half.
        x.access(14, false);
        checks.dueSet(x, 0, 0, 10, 11, 14, 13);
        x.access(15, false);
        checks.dueSet(x, 0, 0, 10, 15, 14, 13);
        // An access to the right leaves the node of the left half as it was: at 10.
        Checks.read(x, 13, 16);
        checks.dueSet(x, 0, 0, 16, 15, 14, 13);
        x.access(17, false);
        checks.dueSet(x, 0, 0, 16, 15, 17, 13);
    }

    private static void treeOfEightPlaces() {
        checks.sentence("all nodes above it point to the half in which it is not");
        // When all eight have come every node points to the left; a hit turns the three nodes above it.
        int[][] placesAfterAHit = {
            {4, 2, 6, 1}, {4, 2, 6, 0}, {4, 0, 6, 3}, {4, 0, 6, 2},
            {0, 6, 2, 5}, {0, 6, 2, 4}, {0, 4, 2, 7}, {0, 4, 2, 6},
        };
        for (int hit = 0; hit < 8; hit++) {
            CacheYard x = new CacheYard();
            x.make(0, 0, 8, 2, 0);
            Checks.read(x, 0, 1, 2, 3, 4, 5, 6, 7, hit);
            for (int i = 0; i < 4; i++) {
                x.access(10 + i, false);
                int place = placesAfterAHit[hit][i];
                checks.due("victim " + i + " after a hit at " + hit, x.place(0, 0, place, 0), 10 + i);
            }
        }
    }

    private static void eachSetHasATree() {
        checks.sentence("each set has a tree");
        CacheYard x = new CacheYard();
        x.make(0, 4, 2, 2, 0);
        Checks.read(x, 0, 16, 15, 31);
        // A hit at place 0 turns the tree of set 0 alone.
        Checks.read(x, 0, 32, 47);
        checks.dueSet(x, 0, 0, 0, 32);
        checks.dueSet(x, 0, 15, 47, 31);
    }
}
