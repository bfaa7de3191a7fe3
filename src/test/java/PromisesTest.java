/** Each promise by hand: ordinary inputs, the edges that the document names, and wrong inputs. */
public final class PromisesTest {
    private static final int[] WRONG_CACHES = Checks.outside(0, 3);
    private static final Checks checks = new Checks();

    public static void main(String[] args) {
        promise1NewObject();
        promise2MakeEdges();
        promise2MakeReplaces();
        promise2MakeRefuses();
        promise3Bits();
        promise3SetsAndBlocks();
        promise3LeastRecent();
        promise3FirstCome();
        promise3TreeOfEight();
        promise3TreeOfOneAndFour();
        promise3Dirty();
        promise3Limits();
        promise4Flush();
        promise4FlushedOrder();
        promise4FlushRefuses();
        promise5Place();
        promise6About();
        promise7Accesses();
        promise8Curve();
        promise9Best();
        promises8And9AreOfTheWholeRow();
        promises8And9Refuse();
        checks.end("PromisesTest");
    }

    private static void promise1NewObject() {
        CacheYard x = new CacheYard();
        checks.due("NONE", CacheYard.NONE, -1);
        checks.due("accesses()", x.accesses(), 0);
        for (int cache = 0; cache < 4; cache++) {
            int c = cache;
            checks.dueThrow("about of none", Checks.NO_ELEMENT, () -> x.about(c, 0));
            checks.dueThrow("place of none", Checks.NO_ELEMENT, () -> x.place(c, 0, 0, 0));
            checks.dueThrow("flush of none", Checks.NO_ELEMENT, () -> x.flush(c));
        }
        checks.due("curve of nothing", x.curve(64, 6), 0);
        checks.due("best of nothing", x.best(64, 6), 0);
        checks.due("access without caches", x.access(7, true), 0);
        checks.due("a second object", new CacheYard().accesses(), 0);
    }

    private static void promise2MakeEdges() {
        CacheYard x = new CacheYard();
        for (int cache = 0; cache < 4; cache++) {
            for (int kind = 0; kind < 3; kind++) {
                x.make(cache, 0, 1, kind, 0);
                x.make(cache, 4, 8, kind, 6);
                checks.due("made is empty", x.about(cache, 4), 0);
                checks.due("last place", x.place(cache, 15, 7, 0), -1);
            }
        }
        for (int places = 1; places <= 8; places++) {
            x.make(0, 1, places, 0, 0);
            x.make(0, 1, places, 1, 0);
            checks.due("last place of " + places, x.place(0, 1, places - 1, 0), -1);
        }
        x.make(1, 0, 2, 2, 3);
        x.make(1, 0, 4, 2, 3);
    }

    private static void promise2MakeReplaces() {
        CacheYard x = new CacheYard();
        x.make(0, 0, 2, 0, 0);
        x.make(1, 0, 2, 0, 0);
        for (int address = 0; address < 5; address++) {
            x.access(address, true);
        }
        x.access(4, false);
        x.make(0, 1, 2, 1, 0);
        for (int what = 0; what < 6; what++) {
            checks.due("about(0, " + what + ") of a new one", x.about(0, what), 0);
        }
        checks.due("new one is empty", x.place(0, 0, 0, 0), -1);
        checks.due("new one is clean", x.place(0, 0, 0, 1), 0);
        checks.due("the other stays", x.place(1, 0, 0, 0), 4);
        checks.due("the other's count", x.about(1, 3), 3);
        checks.due("accesses stay", x.accesses(), 6);
        checks.due("nothing was dirty", x.flush(0), 0);
        smallerAfterLarger();
        treesOfANewOne();
    }

    private static void smallerAfterLarger() {
        CacheYard x = new CacheYard();
        x.make(0, 4, 8, 0, 0);
        for (int address = 0; address < 128; address++) {
            x.access(address, true);
        }
        checks.due("full", x.about(0, 4), 128);
        checks.due("full of dirty ones", x.about(0, 5), 128);
        x.make(0, 0, 1, 0, 0);
        checks.due("small one is empty", x.about(0, 4), 0);
        checks.due("small one misses", x.access(127, false), 0);
        checks.due("small one has one", x.about(0, 4), 1);
        checks.due("small one's victims", x.about(0, 2), 0);
        checks.due("small one flushes", x.flush(0), 0);
    }

    private static void treesOfANewOne() {
        CacheYard x = new CacheYard();
        x.make(0, 0, 2, 2, 0);
        x.access(1, false);
        x.make(0, 0, 4, 2, 0);
        Checks.read(x, 10, 11, 12, 13);
        x.access(14, false);
        checks.due("victim of a new tree", x.place(0, 0, 0, 0), 14);
    }

    private static void promise2MakeRefuses() {
        CacheYard x = new CacheYard();
        x.make(0, 0, 2, 0, 0);
        x.access(5, true);
        for (int cache : WRONG_CACHES) {
            refuseMake(x, cache, 0, 1, 0, 0);
        }
        for (int wrong : new int[] {-1, 5, 32, Integer.MIN_VALUE, Integer.MAX_VALUE}) {
            refuseMake(x, 0, wrong, 1, 0, 0);
        }
        for (int wrong : new int[] {0, -1, 9, 16, Integer.MIN_VALUE, Integer.MAX_VALUE}) {
            refuseMake(x, 0, 0, wrong, 0, 0);
            refuseMake(x, 0, 0, wrong, 2, 0);
        }
        for (int wrong : new int[] {-1, 3, Integer.MIN_VALUE, Integer.MAX_VALUE}) {
            refuseMake(x, 0, 0, 1, wrong, 0);
        }
        for (int wrong : new int[] {3, 5, 6, 7}) {
            refuseMake(x, 0, 0, wrong, 2, 0);
        }
        for (int wrong : new int[] {-1, 7, 32, Integer.MIN_VALUE, Integer.MAX_VALUE}) {
            refuseMake(x, 0, 0, 1, 0, wrong);
        }
        refuseMake(x, 1, 5, 1, 0, 0);
        checks.dueThrow("a refused one is none", Checks.NO_ELEMENT, () -> x.about(1, 0));
        checks.due("the old one stays", x.place(0, 0, 0, 0), 5);
        checks.due("its dirt stays", x.place(0, 0, 0, 1), 1);
        checks.due("its places stay", x.place(0, 0, 1, 0), -1);
        checks.due("its counts stay", x.about(0, 1), 1);
    }

    private static void refuseMake(CacheYard x, int cache, int setBits, int places, int kind, int bits) {
        String call = "make(" + cache + ", " + setBits + ", " + places + ", " + kind + ", " + bits + ")";
        checks.dueThrow(call, Checks.ILLEGAL, () -> x.make(cache, setBits, places, kind, bits));
    }

    private static void promise3Bits() {
        CacheYard x = new CacheYard();
        for (int cache = 0; cache < 4; cache++) {
            x.make(cache, 0, 1, cache % 3, 0);
            checks.due("all older ones hit", x.access(0, false), (1 << cache) - 1);
        }
        checks.due("all hit", x.access(0, false), 15);
        x.flush(2);
        checks.due("all but one hit", x.access(0, false), 11);
    }

    private static void promise3SetsAndBlocks() {
        CacheYard x = new CacheYard();
        x.make(0, 4, 1, 0, 6);
        x.make(1, 2, 1, 0, 3);
        x.access(4095, false);
        checks.due("block of 6 bits", x.place(0, 15, 0, 0), 63);
        checks.due("block of 3 bits", x.place(1, 3, 0, 0), 511);
        checks.due("first address of the block of 6 bits", x.access(4032, false), 1);
        checks.due("one below it", x.access(4031, false), 0);
        checks.due("it has a set of its own", x.place(0, 14, 0, 0), 62);
        checks.due("and the other stays", x.place(0, 15, 0, 0), 63);
        checks.due("cache 1's set 3", x.place(1, 3, 0, 0), 503);
    }

    private static void promise3LeastRecent() {
        CacheYard x = new CacheYard();
        x.make(0, 0, 3, 0, 0);
        Checks.read(x, 10, 11, 12);
        checks.due("hit", x.access(10, false), 1);
        checks.due("miss", x.access(13, false), 0);
        checks.dueSet(x, 0, 0, 10, 13, 12);
        checks.due("miss", x.access(14, false), 0);
        checks.dueSet(x, 0, 0, 10, 13, 14);
        checks.due("miss", x.access(15, false), 0);
        checks.dueSet(x, 0, 0, 15, 13, 14);
    }

    private static void promise3FirstCome() {
        CacheYard x = new CacheYard();
        x.make(0, 0, 3, 1, 0);
        Checks.read(x, 10, 11, 12);
        checks.due("hit", x.access(10, true), 1);
        checks.due("miss", x.access(13, false), 0);
        checks.dueSet(x, 0, 0, 13, 11, 12);
        checks.due("hit", x.access(11, false), 1);
        checks.due("miss", x.access(10, false), 0);
        checks.dueSet(x, 0, 0, 13, 10, 12);
        checks.due("written back", x.about(0, 3), 1);
    }

    private static void promise3TreeOfEight() {
        CacheYard x = new CacheYard();
        x.make(3, 0, 8, 2, 0);
        Checks.read(x, 100, 101, 102, 103, 104, 105, 106, 107);
        checks.dueSet(x, 3, 0, 100, 101, 102, 103, 104, 105, 106, 107);
        x.access(108, false);
        checks.due("all point left", x.place(3, 0, 0, 0), 108);
        x.access(109, false);
        checks.due("then the right half", x.place(3, 0, 4, 0), 109);
        x.access(110, false);
        checks.due("left, its right quarter", x.place(3, 0, 2, 0), 110);
        x.access(111, false);
        checks.due("right, its right quarter", x.place(3, 0, 6, 0), 111);
        checks.due("a hit moves the tree, too", x.access(101, false), 8);
        x.access(112, false);
        checks.due("the half without the hit", x.place(3, 0, 5, 0), 112);
        x.access(113, false);
        checks.dueSet(x, 3, 0, 108, 101, 110, 113, 109, 112, 111, 107);
    }

    private static void promise3TreeOfOneAndFour() {
        CacheYard x = new CacheYard();
        x.make(0, 0, 1, 2, 0);
        x.make(1, 1, 4, 2, 0);
        Checks.read(x, 0, 2, 4, 6, 1);
        checks.dueSet(x, 0, 0, 1);
        checks.due("victims of the tree without nodes", x.about(0, 2), 4);
        checks.due("hit", x.access(0, false), 2);
        x.access(8, false);
        checks.dueSet(x, 1, 0, 0, 2, 8, 6);
        checks.dueSet(x, 1, 1, 1, -1, -1, -1);
        x.access(10, false);
        checks.dueSet(x, 1, 0, 0, 10, 8, 6);
    }

    private static void promise3Dirty() {
        CacheYard x = new CacheYard();
        x.make(0, 0, 2, 0, 2);
        x.access(0, false);
        checks.due("read is clean", x.place(0, 0, 0, 1), 0);
        x.access(3, true);
        checks.due("written is dirty", x.place(0, 0, 0, 1), 1);
        x.access(1, false);
        checks.due("read leaves it dirty", x.place(0, 0, 0, 1), 1);
        x.access(4, true);
        checks.due("written at once is dirty", x.place(0, 0, 1, 1), 1);
        x.access(8, false);
        checks.due("the new one is clean", x.place(0, 0, 0, 1), 0);
        checks.due("the old one is written back", x.about(0, 3), 1);
        x.access(12, false);
        x.access(0, false);
        checks.due("a clean one is not", x.about(0, 3), 2);
        checks.due("it comes back clean", x.place(0, 0, 0, 1), 0);
    }

    private static void promise3Limits() {
        CacheYard x = new CacheYard();
        x.make(0, 0, 1, 0, 0);
        x.access(0, false);
        checks.due("the last address", x.access(4095, false), 0);
        for (int wrong : new int[] {-1, 4096, Integer.MIN_VALUE, Integer.MAX_VALUE}) {
            checks.dueThrow("access(" + wrong + ")", Checks.ILLEGAL, () -> x.access(wrong, true));
        }
        checks.due("nothing kept", x.accesses(), 2);
        checks.due("nothing seen", x.about(0, 1), 2);
        for (int i = 2; i < 400; i++) {
            checks.due("access " + i, x.access(4095, false), 1);
        }
        checks.due("all 400", x.accesses(), 400);
        checks.dueThrow("one more", Checks.UNSUPPORTED, () -> x.access(4095, true));
        checks.dueThrow("one more, of no address", Checks.ILLEGAL, () -> x.access(4096, true));
        checks.due("still 400", x.accesses(), 400);
        checks.due("not a hit", x.about(0, 0), 398);
        checks.due("not dirty", x.place(0, 0, 0, 1), 0);
        checks.due("curve of 400", x.curve(1, 0), 398);
        checks.due("best of 400", x.best(1, 0), 398);
    }

    private static void promise4Flush() {
        CacheYard x = new CacheYard();
        x.make(0, 1, 2, 0, 0);
        x.make(1, 1, 2, 0, 0);
        x.access(0, true);
        x.access(1, false);
        x.access(3, true);
        x.access(5, true);
        checks.due("flush", x.flush(0), 3);
        checks.dueSet(x, 0, 0, -1, -1);
        checks.dueSet(x, 0, 1, -1, -1);
        checks.due("no dirt", x.place(0, 1, 0, 1), 0);
        checks.due("the other stays", x.about(1, 4), 3);
        checks.due("again", x.flush(0), 0);
        int[] told = {0, 4, 1, 3, 0, 0};
        for (int what = 0; what < told.length; what++) {
            checks.due("about(0, " + what + ") after flush", x.about(0, what), told[what]);
        }
        checks.due("miss again", x.access(5, false), 2);
        checks.dueSet(x, 0, 1, 5, -1);
        checks.due("clean again", x.flush(0), 0);
    }

    private static void promise4FlushedOrder() {
        // A victim goes only when every place has been accessed since the flush, and so every node has been
        // set anew: that the trees point to the left shows in no answer, only the order of victims does.
        CacheYard x = new CacheYard();
        x.make(0, 0, 8, 2, 0);
        Checks.read(x, 0, 1, 2);
        x.flush(0);
        Checks.read(x, 10, 11, 12, 13, 14, 15, 16, 17);
        x.access(18, false);
        checks.due("the first place", x.place(0, 0, 0, 0), 18);
        CacheYard y = new CacheYard();
        y.make(0, 0, 2, 1, 0);
        Checks.read(y, 1, 2, 3);
        y.flush(0);
        Checks.read(y, 4, 5, 6);
        checks.dueSet(y, 0, 0, 6, 5);
    }

    private static void promise4FlushRefuses() {
        CacheYard x = new CacheYard();
        x.make(1, 0, 1, 0, 0);
        x.access(1, true);
        checks.dueThrow("flush(0)", Checks.NO_ELEMENT, () -> x.flush(0));
        for (int wrong : WRONG_CACHES) {
            checks.dueThrow("flush(" + wrong + ")", Checks.NO_ELEMENT, () -> x.flush(wrong));
        }
        checks.due("the other stays", x.about(1, 5), 1);
    }

    private static void promise5Place() {
        CacheYard x = new CacheYard();
        x.make(2, 1, 3, 0, 1);
        x.access(6, true);
        checks.due("block", x.place(2, 1, 0, 0), 3);
        checks.due("dirty", x.place(2, 1, 0, 1), 1);
        checks.due("empty", x.place(2, 1, 2, 0), CacheYard.NONE);
        checks.due("empty is not dirty", x.place(2, 1, 2, 1), 0);
        checks.due("another set", x.place(2, 0, 0, 0), CacheYard.NONE);
        for (int wrong : WRONG_CACHES) {
            checks.dueThrow("place of no cache", Checks.NO_ELEMENT, () -> x.place(wrong, -1, -1, -1));
        }
        checks.dueThrow("place of one not made", Checks.NO_ELEMENT, () -> x.place(0, 9, 9, 9));
        for (int wrong : new int[] {-1, 2, 16, Integer.MIN_VALUE, Integer.MAX_VALUE}) {
            checks.dueThrow("no such set", Checks.OUT_OF_BOUNDS, () -> x.place(2, wrong, 0, 0));
            checks.dueThrow("no such set, nor what", Checks.OUT_OF_BOUNDS, () -> x.place(2, wrong, 0, 2));
        }
        for (int wrong : new int[] {-1, 3, 8, Integer.MIN_VALUE, Integer.MAX_VALUE}) {
            checks.dueThrow("no such place", Checks.OUT_OF_BOUNDS, () -> x.place(2, 0, wrong, 1));
            checks.dueThrow("no such place, nor what", Checks.OUT_OF_BOUNDS, () -> x.place(2, 0, wrong, -1));
        }
        for (int wrong : new int[] {-1, 2, Integer.MIN_VALUE, Integer.MAX_VALUE}) {
            checks.dueThrow("no such what", Checks.ILLEGAL, () -> x.place(2, 1, 2, wrong));
        }
    }

    private static void promise6About() {
        CacheYard x = new CacheYard();
        x.make(0, 0, 2, 0, 0);
        x.access(1, true);
        x.access(1, false);
        x.access(2, false);
        x.access(3, true);
        x.access(4, true);
        int[] told = {1, 4, 2, 1, 2, 2};
        for (int what = 0; what < told.length; what++) {
            checks.due("about(0, " + what + ")", x.about(0, what), told[what]);
        }
        x.flush(0);
        int[] flushed = {1, 4, 2, 3, 0, 0};
        for (int what = 0; what < flushed.length; what++) {
            checks.due("about(0, " + what + ") after flush", x.about(0, what), flushed[what]);
        }
        for (int wrong : new int[] {-1, 6, Integer.MIN_VALUE, Integer.MAX_VALUE}) {
            checks.dueThrow("about(0, " + wrong + ")", Checks.ILLEGAL, () -> x.about(0, wrong));
            checks.dueThrow("about(1, " + wrong + ")", Checks.NO_ELEMENT, () -> x.about(1, wrong));
        }
        for (int wrong : WRONG_CACHES) {
            checks.dueThrow("about(" + wrong + ", 0)", Checks.NO_ELEMENT, () -> x.about(wrong, 0));
        }
    }

    private static void promise7Accesses() {
        CacheYard x = new CacheYard();
        for (int i = 0; i < 10; i++) {
            checks.due("accesses()", x.accesses(), i);
            x.access(i % 3, i % 2 == 0);
        }
        x.make(0, 0, 1, 0, 0);
        x.access(0, false);
        x.flush(0);
        checks.due("accesses() after make and flush", x.accesses(), 11);
    }

    private static void promise8Curve() {
        CacheYard x = new CacheYard();
        Checks.read(x, 1, 2, 3, 4, 1, 2, 5, 1, 2, 3, 4, 5);
        int[] due = {0, 0, 2, 4, 7, 7};
        for (int i = 0; i < due.length; i++) {
            checks.due("curve(" + (i + 1) + ", 0)", x.curve(i + 1, 0), due[i]);
        }
        checks.due("curve(64, 0)", x.curve(64, 0), 7);
        checks.due("curve(1, 1)", x.curve(1, 1), 3);
        checks.due("curve(2, 1)", x.curve(2, 1), 3);
        checks.due("curve(3, 1)", x.curve(3, 1), 9);
        checks.due("curve(1, 6)", x.curve(1, 6), 11);
        checks.due("curve(64, 6)", x.curve(64, 6), 11);
        // A row that comes round: one line too few, and there is no hit at all.
        CacheYard y = new CacheYard();
        for (int i = 0; i < 130; i++) {
            y.access(i % 65 * 63, false);
        }
        checks.due("curve(64, 0) of 65", y.curve(64, 0), 0);
        CacheYard z = new CacheYard();
        for (int i = 0; i < 128; i++) {
            z.access(i % 64 * 64 + i / 64, false);
        }
        checks.due("curve(64, 6) of 64", z.curve(64, 6), 64);
        checks.due("curve(63, 6) of 64", z.curve(63, 6), 0);
        checks.due("curve(64, 0) of 128", z.curve(64, 0), 0);
    }

    private static void promise9Best() {
        CacheYard x = new CacheYard();
        Checks.read(x, 1, 2, 3, 4, 1, 2, 5, 1, 2, 3, 4, 5);
        int[] due = {0, 3, 5, 6, 7, 7};
        for (int i = 0; i < due.length; i++) {
            checks.due("best(" + (i + 1) + ", 0)", x.best(i + 1, 0), due[i]);
        }
        checks.due("best(64, 0)", x.best(64, 0), 7);
        checks.due("best(1, 1)", x.best(1, 1), 3);
        checks.due("best(1, 6)", x.best(1, 6), 11);
        // The block that is accessed must come: it can't be its own victim.
        CacheYard y = new CacheYard();
        Checks.read(y, 1, 2, 1, 3, 1);
        checks.due("best(1, 0)", y.best(1, 0), 0);
        checks.due("best(2, 0)", y.best(2, 0), 2);
        CacheYard z = new CacheYard();
        for (int i = 0; i < 130; i++) {
            z.access(i % 65 * 63, false);
        }
        // In the second round only the one victim of the first round is missing.
        checks.due("best(64, 0) of 65", z.best(64, 0), 64);
    }

    private static void promises8And9AreOfTheWholeRow() {
        CacheYard x = new CacheYard();
        x.access(1, true);
        x.make(0, 0, 1, 1, 0);
        x.access(1, false);
        x.flush(0);
        x.access(1, true);
        checks.due("curve", x.curve(1, 0), 2);
        checks.due("best", x.best(1, 0), 2);
        checks.due("the cache's own hits", x.about(0, 0), 0);
        checks.due("asking is no access", x.accesses(), 3);
        checks.due("asked again", x.curve(1, 0), 2);
    }

    private static void promises8And9Refuse() {
        CacheYard x = new CacheYard();
        Checks.read(x, 1, 1, 1);
        for (int wrong : new int[] {0, -1, 65, Integer.MIN_VALUE, Integer.MAX_VALUE}) {
            checks.dueThrow("curve(" + wrong + ", 0)", Checks.ILLEGAL, () -> x.curve(wrong, 0));
            checks.dueThrow("best(" + wrong + ", 0)", Checks.ILLEGAL, () -> x.best(wrong, 0));
        }
        for (int wrong : new int[] {-1, 7, 32, Integer.MIN_VALUE, Integer.MAX_VALUE}) {
            checks.dueThrow("curve(1, " + wrong + ")", Checks.ILLEGAL, () -> x.curve(1, wrong));
            checks.dueThrow("best(1, " + wrong + ")", Checks.ILLEGAL, () -> x.best(1, wrong));
        }
        checks.due("curve still", x.curve(1, 0), 2);
        checks.due("best still", x.best(1, 0), 2);
    }
}
