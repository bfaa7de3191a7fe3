import java.util.Random;

/** Seeded runs of 512 calls, wrong ones among them, with each answer compared to the naive program's. */
public final class ModelTest {
    private static final int[] FAR = {Integer.MIN_VALUE, Integer.MAX_VALUE, 1 << 16, -4096, 4096, 32, -32};

    private final Checks checks;
    private final Random random;
    private final CacheYard yard = new CacheYard();
    private final NaiveYard naive = new NaiveYard();
    // Few addresses bring hits and full sets, many bring all blocks.
    private final int span;
    private final int makesInAHundred;

    private ModelTest(Checks checks, Random random) {
        this.checks = checks;
        this.random = random;
        span = 1 << (2 + random.nextInt(11));
        makesInAHundred = random.nextInt(4);
    }

    public static void main(String[] args) {
        Checks checks = new Checks();
        Random random = new Random(9);
        for (int run = 0; run < 100 && !checks.isFull(); run++) {
            new ModelTest(checks, random).run();
        }
        checks.end("ModelTest");
    }

    private void run() {
        for (int cache = 0; cache < 4; cache++) {
            if (random.nextInt(5) > 0) {
                make(cache);
            }
        }
        for (int call = 4; call < 512 && !checks.isFull(); call++) {
            int dice = random.nextInt(100);
            if (dice < makesInAHundred) {
                make(random.nextInt(4));
            } else if (dice < 85) {
                access();
            } else if (dice < 87) {
                flush();
            } else {
                ask();
            }
            if (random.nextInt(20) == 0) {
                compareAll();
            }
        }
        compareAll();
    }

    private void make(int cache) {
        int c = orWrong(cache, 0, 3);
        int setBits = orWrong(random.nextInt(5), 0, 4);
        int kind = orWrong(random.nextInt(3), 0, 2);
        int places = orWrong(kind == 2 ? 1 << random.nextInt(4) : 1 + random.nextInt(8), 1, 8);
        int bits = orWrong(random.nextInt(7), 0, 6);
        compare("make(" + c + ", " + setBits + ", " + places + ", " + kind + ", " + bits + ")",
            Checks.answer(() -> { yard.make(c, setBits, places, kind, bits); return 0; }),
            Checks.answer(() -> { naive.make(c, setBits, places, kind, bits); return 0; }));
    }

    private void access() {
        int address = orWrong(random.nextInt(span), 0, 4095);
        boolean writes = random.nextInt(3) == 0;
        compare("access(" + address + ", " + writes + ")",
            Checks.answer(() -> yard.access(address, writes)), Checks.answer(() -> naive.access(address, writes)));
    }

    private void flush() {
        int cache = orWrong(random.nextInt(4), 0, 3);
        compare("flush(" + cache + ")", Checks.answer(() -> yard.flush(cache)), Checks.answer(() -> naive.flush(cache)));
    }

    private void ask() {
        int cache = orWrong(random.nextInt(4), 0, 3);
        int set = orWrong(random.nextInt(16), 0, 15);
        int place = orWrong(random.nextInt(8), 0, 7);
        int what = orWrong(random.nextInt(6), 0, 5);
        compare("place(" + cache + ", " + set + ", " + place + ", " + what + ")",
            Checks.answer(() -> yard.place(cache, set, place, what)),
            Checks.answer(() -> naive.place(cache, set, place, what)));
        compare("about(" + cache + ", " + what + ")",
            Checks.answer(() -> yard.about(cache, what)), Checks.answer(() -> naive.about(cache, what)));
    }

    /** The whole state that can be seen, so that a call that should change nothing is found out. */
    private void compareAll() {
        StringBuilder got = new StringBuilder();
        StringBuilder want = new StringBuilder();
        got.append(yard.accesses());
        want.append(naive.accesses());
        for (int i = 0; i < 4; i++) {
            int cache = i;
            for (int w = 0; w < 6; w++) {
                int what = w;
                got.append(' ').append(Checks.answer(() -> yard.about(cache, what)));
                want.append(' ').append(Checks.answer(() -> naive.about(cache, what)));
            }
            for (int k = 0; k < 256; k++) {
                int slot = k;
                got.append(' ').append(Checks.answer(() -> yard.place(cache, slot / 16, slot / 2 % 8, slot % 2)));
                want.append(' ').append(Checks.answer(() -> naive.place(cache, slot / 16, slot / 2 % 8, slot % 2)));
            }
        }
        compare("the whole state", got.toString(), want.toString());
    }

    private int orWrong(int right, int least, int most) {
        int dice = random.nextInt(120);
        if (dice == 0) {
            return least - 1;
        }
        if (dice == 1) {
            return most + 1;
        }
        return dice == 2 ? FAR[random.nextInt(FAR.length)] : right;
    }

    private void compare(String call, String got, String want) {
        checks.dueSame(call, got, want);
    }
}
