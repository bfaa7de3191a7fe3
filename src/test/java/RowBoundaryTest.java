/** The boundary cases of the document's term 3 and of promises 8 and 9, sentence by sentence. */
public final class RowBoundaryTest {
    private static final Checks checks = new Checks();

    public static void main(String[] args) {
        linesAre1To64();
        bitsAre0To6();
        bothAreWrong();
        noAccesses();
        oneAccess();
        oneLine();
        asManyLinesAsBlocks();
        oneLineTooFew();
        moreLinesThanBlocks();
        aCacheOfOneSetOfKind0();
        hadItSeenAllAccesses();
        writesAreAccesses();
        anyVictimEachTime();
        neverNeededAgain();
        theBlockMustCome();
        theLastBits();
        theWholeRowOf400();
        askingChangesNothing();
        checks.end("RowBoundaryTest");
    }

    private static void linesAre1To64() {
        checks.sentence("IllegalArgumentException if lines aren't 1 .. 64");
        CacheYard x = new CacheYard();
        Checks.read(x, 5, 5);
        checks.due("curve(1, 0)", x.curve(1, 0), 1);
        checks.due("curve(64, 0)", x.curve(64, 0), 1);
        checks.due("best(1, 0)", x.best(1, 0), 1);
        checks.due("best(64, 0)", x.best(64, 0), 1);
        for (int wrong : Checks.outside(1, 64)) {
            dueRefused(x, wrong, 0);
            dueRefused(x, wrong, 6);
        }
    }

    private static void bitsAre0To6() {
        checks.sentence("or bits 0 .. 6");
        CacheYard x = new CacheYard();
        Checks.read(x, 0, 63);
        checks.due("curve(1, 0)", x.curve(1, 0), 0);
        checks.due("curve(1, 5)", x.curve(1, 5), 0);
        checks.due("curve(1, 6)", x.curve(1, 6), 1);
        checks.due("best(1, 0)", x.best(1, 0), 0);
        checks.due("best(1, 5)", x.best(1, 5), 0);
        checks.due("best(1, 6)", x.best(1, 6), 1);
        for (int wrong : Checks.outside(0, 6)) {
            dueRefused(x, 1, wrong);
            dueRefused(x, 64, wrong);
        }
        dueRefused(x, 1, 32);
        dueRefused(x, 1, 38);
    }

    private static void bothAreWrong() {
        checks.sentence("IllegalArgumentException if lines aren't 1 .. 64, or bits 0 .. 6.");
        CacheYard empty = new CacheYard();
        dueRefused(empty, 0, 7);
        dueRefused(empty, 65, -1);
        // A row without accesses is no reason to take them.
        dueRefused(empty, 0, 0);
        dueRefused(empty, 1, 7);
    }

    private static void noAccesses() {
        checks.sentence("had it seen all accesses");
        CacheYard x = new CacheYard();
        x.make(0, 0, 1, 0, 0);
        for (int lines : new int[] {1, 64}) {
            for (int bits : new int[] {0, 6}) {
                dueBoth(x, lines, bits, 0, 0);
            }
        }
    }

    private static void oneAccess() {
        checks.sentence("had it seen all accesses");
        for (int address : new int[] {0, 4095}) {
            CacheYard x = new CacheYard();
            x.access(address, true);
            dueBoth(x, 1, 0, 0, 0);
            dueBoth(x, 64, 6, 0, 0);
            x.access(address, false);
            dueBoth(x, 1, 0, 1, 1);
            dueBoth(x, 64, 6, 1, 1);
        }
    }

    private static void oneLine() {
        checks.sentence("With so many LINES");
        CacheYard x = new CacheYard();
        Checks.read(x, 1, 1, 2, 1, 2, 2, 2);
        dueBoth(x, 1, 0, 3, 3);
        dueBoth(x, 2, 0, 5, 5);
        dueBoth(x, 1, 1, 3, 3);
        dueBoth(x, 1, 2, 6, 6);
    }

    private static void asManyLinesAsBlocks() {
        checks.sentence("With so many LINES");
        for (int lines = 1; lines <= 64; lines++) {
            CacheYard x = comeRound(lines, 3);
            dueBoth(x, lines, 0, 2 * lines, 2 * lines);
        }
    }

    private static void oneLineTooFew() {
        checks.sentence("by the least recent use, and with the best choice that there is");
        for (int lines = 1; lines <= 64; lines++) {
            // In the second round all hit but the one that went; with one line none can.
            CacheYard x = comeRound(lines + 1, 2);
            dueBoth(x, lines, 0, 0, lines == 1 ? 0 : lines);
        }
    }

    private static void moreLinesThanBlocks() {
        checks.sentence("With so many LINES");
        CacheYard x = comeRound(3, 4);
        for (int lines = 3; lines <= 64; lines++) {
            dueBoth(x, lines, 0, 9, 9);
        }
    }

    private static void aCacheOfOneSetOfKind0() {
        checks.sentence("a cache of one set, all of whose places are of KIND 0");
        for (int bits = 0; bits <= 6; bits++) {
            CacheYard x = new CacheYard();
            x.make(0, 0, 1, 0, bits);
            x.make(1, 0, 2, 0, bits);
            x.make(2, 0, 5, 0, bits);
            x.make(3, 0, 8, 0, bits);
            for (int i = 0; i < 300; i++) {
                x.access(i * i * 7 % 53 * (1 << bits) + i % (1 << bits), i % 3 == 0);
            }
            checks.due("curve(1, " + bits + ")", x.curve(1, bits), x.about(0, 0));
            checks.due("curve(2, " + bits + ")", x.curve(2, bits), x.about(1, 0));
            checks.due("curve(5, " + bits + ")", x.curve(5, bits), x.about(2, 0));
            checks.due("curve(8, " + bits + ")", x.curve(8, bits), x.about(3, 0));
        }
    }

    private static void hadItSeenAllAccesses() {
        checks.sentence("had it seen all accesses");
        CacheYard x = new CacheYard();
        x.access(1, false);
        x.make(0, 0, 1, 0, 0);
        x.access(1, false);
        x.flush(0);
        x.access(1, false);
        x.make(0, 0, 1, 0, 0);
        x.access(1, false);
        checks.due("the cache has seen one", x.about(0, 1), 1);
        dueBoth(x, 1, 0, 3, 3);
        checks.dueThrow("a refused one", Checks.ILLEGAL, () -> x.access(-1, false));
        dueBoth(x, 1, 0, 3, 3);
    }

    private static void writesAreAccesses() {
        checks.sentence("An ACCESS reads or writes an address");
        CacheYard x = new CacheYard();
        Checks.write(x, 1, 2, 1, 2);
        Checks.read(x, 1, 2);
        dueBoth(x, 1, 0, 0, 0);
        dueBoth(x, 2, 0, 4, 4);
    }

    private static void anyVictimEachTime() {
        checks.sentence("at most so many if it could choose any victim each time (the BEST)");
        CacheYard x = new CacheYard();
        // For 3 the newest one must go, not the oldest.
        Checks.read(x, 1, 2, 3, 1);
        dueBoth(x, 2, 0, 0, 1);
        // 1 goes for 3 and comes back; then 2 must go, which is never needed again, and not the older 3.
        CacheYard y = new CacheYard();
        Checks.read(y, 1, 2, 3, 2, 1, 3, 1);
        dueBoth(y, 2, 0, 2, 3);
        // With all 64 lines in use: 100 must go by the least recent use, and need not by the best choice.
        CacheYard z = comeRound(64, 1);
        Checks.read(z, 100);
        for (int i = 1; i < 64; i++) {
            z.access(i, false);
        }
        dueBoth(z, 64, 0, 63, 63);
        z.access(0, false);
        z.access(100, false);
        dueBoth(z, 64, 0, 63, 64);
    }

    private static void neverNeededAgain() {
        checks.sentence("at most so many if it could choose any victim each time (the BEST)");
        CacheYard x = new CacheYard();
        // 1 is needed at the very last access; 2 is needed never again, and goes.
        Checks.read(x, 1, 2, 3, 4, 5, 6, 7, 1);
        dueBoth(x, 2, 0, 0, 1);
        CacheYard y = new CacheYard();
        y.access(4095, false);
        for (int i = 1; i < 399; i++) {
            y.access(i, false);
        }
        y.access(4095, false);
        dueBoth(y, 2, 0, 0, 1);
        dueBoth(y, 1, 0, 0, 0);
    }

    private static void theBlockMustCome() {
        checks.sentence("otherwise it MISSES, and the block comes");
        CacheYard x = new CacheYard();
        // Could a block pass by, 1 would stay and hit twice.
        Checks.read(x, 1, 2, 1, 3, 1);
        dueBoth(x, 1, 0, 0, 0);
        dueBoth(x, 2, 0, 2, 2);
    }

    private static void theLastBits() {
        checks.sentence("With so many LINES and BITS");
        CacheYard x = new CacheYard();
        for (int i = 0; i < 128; i++) {
            x.access(i % 64 * 64 + i / 64 * 63, false);
        }
        dueBoth(x, 64, 6, 64, 64);
        dueBoth(x, 63, 6, 0, 63);
        dueBoth(x, 64, 5, 0, 0);
        dueBoth(x, 64, 0, 0, 0);
    }

    private static void theWholeRowOf400() {
        checks.sentence("at most 400 of them, numbered from 0, are kept");
        CacheYard x = new CacheYard();
        for (int i = 0; i < 400; i++) {
            x.access(i % 2 * 4095, false);
        }
        checks.dueThrow("one more", Checks.UNSUPPORTED, () -> x.access(0, false));
        dueBoth(x, 1, 0, 0, 0);
        dueBoth(x, 2, 0, 398, 398);
        dueBoth(x, 64, 6, 398, 398);
        CacheYard y = new CacheYard();
        for (int i = 0; i < 400; i++) {
            y.access(i * 10, false);
        }
        dueBoth(y, 64, 0, 0, 0);
        dueBoth(y, 64, 6, 337, 337);
    }

    private static void askingChangesNothing() {
        checks.sentence("The CURVE.");
        CacheYard x = new CacheYard();
        x.make(0, 0, 2, 0, 0);
        Checks.read(x, 1, 2, 3, 1);
        // Fewer lines after more, and other bits between, find nothing that the one before left.
        dueBoth(x, 64, 0, 1, 1);
        dueBoth(x, 1, 0, 0, 0);
        dueBoth(x, 1, 6, 3, 3);
        dueBoth(x, 2, 0, 0, 1);
        dueBoth(x, 64, 0, 1, 1);
        checks.due("accesses()", x.accesses(), 4);
        checks.dueSet(x, 0, 0, 3, 1);
        checks.dueAbout(x, 0, 0, 4, 2, 0, 2, 0);
        x.access(1, false);
        dueBoth(x, 1, 0, 1, 1);
        dueBoth(x, 2, 0, 1, 2);
    }

    private static CacheYard comeRound(int blocks, int rounds) {
        CacheYard x = new CacheYard();
        for (int i = 0; i < blocks * rounds; i++) {
            x.access(i % blocks, false);
        }
        return x;
    }

    private static void dueBoth(CacheYard x, int lines, int bits, int curve, int best) {
        checks.due("curve(" + lines + ", " + bits + ")", x.curve(lines, bits), curve);
        checks.due("best(" + lines + ", " + bits + ")", x.best(lines, bits), best);
    }

    private static void dueRefused(CacheYard x, int lines, int bits) {
        checks.dueThrow("curve(" + lines + ", " + bits + ")", Checks.ILLEGAL, () -> x.curve(lines, bits));
        checks.dueThrow("best(" + lines + ", " + bits + ")", Checks.ILLEGAL, () -> x.best(lines, bits));
    }
}
