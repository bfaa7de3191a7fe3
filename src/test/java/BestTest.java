import java.util.HashSet;
import java.util.Random;
import java.util.Set;

/** curve and best against what the document's term 3 says, word by word. */
public final class BestTest {
    private static final Checks checks = new Checks();

    public static void main(String[] args) {
        Random random = new Random(20261115);
        for (int run = 0; run < 1500 && !checks.isFull(); run++) {
            compareShortRow(random);
        }
        for (int run = 0; run < 10 && !checks.isFull(); run++) {
            compareLongRow(random);
        }
        checks.end("BestTest");
    }

    private static void compareShortRow(Random random) {
        int[] addresses = makeRow(random, 1 + random.nextInt(13), 2 + random.nextInt(6));
        CacheYard yard = feed(addresses);
        for (int bits = 0; bits <= 1; bits++) {
            int[] blocks = blocksOf(addresses, bits);
            for (int lines = 1; lines <= 4; lines++) {
                checks.due(tell("best", lines, bits, addresses), yard.best(lines, bits),
                    tryAllVictims(blocks, 0, new int[lines], 0));
                checks.due(tell("curve", lines, bits, addresses), yard.curve(lines, bits),
                    hitsByDistance(blocks, lines));
            }
        }
    }

    private static void compareLongRow(Random random) {
        int span = 1 << (3 + random.nextInt(10));
        int[] addresses = makeRow(random, 300 + random.nextInt(101), span);
        CacheYard yard = feed(addresses);
        for (int bits = 0; bits <= 6; bits++) {
            int[] blocks = blocksOf(addresses, bits);
            int bestBefore = 0;
            for (int lines = 1; lines <= 64; lines++) {
                int curve = yard.curve(lines, bits);
                int best = yard.best(lines, bits);
                checks.due(tell("curve", lines, bits, addresses), curve, hitsByDistance(blocks, lines));
                checks.due(tell("best", lines, bits, addresses), best, hitsByLastNeed(blocks, lines));
                checks.due("best is at least curve", best >= curve ? 1 : 0, 1);
                checks.due("best grows with the lines", best >= bestBefore ? 1 : 0, 1);
                bestBefore = best;
            }
        }
    }

    private static int[] makeRow(Random random, int length, int span) {
        int[] addresses = new int[length];
        int base = random.nextInt(4096 - span + 1);
        for (int i = 0; i < length; i++) {
            addresses[i] = base + random.nextInt(span);
        }
        return addresses;
    }

    private static CacheYard feed(int[] addresses) {
        CacheYard yard = new CacheYard();
        for (int address : addresses) {
            yard.access(address, false);
        }
        return yard;
    }

    private static int[] blocksOf(int[] addresses, int bits) {
        int[] blocks = new int[addresses.length];
        for (int i = 0; i < blocks.length; i++) {
            blocks[i] = addresses[i] / (1 << bits);
        }
        return blocks;
    }

    /** The most hits from access i on, with the first 'held' lines in use. */
    private static int tryAllVictims(int[] blocks, int i, int[] lines, int held) {
        if (i == blocks.length) {
            return 0;
        }
        for (int k = 0; k < held; k++) {
            if (lines[k] == blocks[i]) {
                return 1 + tryAllVictims(blocks, i + 1, lines, held);
            }
        }
        if (held < lines.length) {
            lines[held] = blocks[i];
            return tryAllVictims(blocks, i + 1, lines, held + 1);
        }
        int most = 0;
        for (int k = 0; k < held; k++) {
            int[] others = lines.clone();
            others[k] = blocks[i];
            most = Math.max(most, tryAllVictims(blocks, i + 1, others, held));
        }
        return most;
    }

    /** By the least recent use an access hits if fewer than so many other blocks came since the block's last one. */
    private static int hitsByDistance(int[] blocks, int lines) {
        int hits = 0;
        for (int i = 0; i < blocks.length; i++) {
            Set<Integer> others = new HashSet<>();
            int j = i - 1;
            while (j >= 0 && blocks[j] != blocks[i]) {
                others.add(blocks[j]);
                j--;
            }
            if (j >= 0 && others.size() < lines) {
                hits++;
            }
        }
        return hits;
    }

    private static int hitsByLastNeed(int[] blocks, int lines) {
        Set<Integer> held = new HashSet<>();
        int hits = 0;
        for (int i = 0; i < blocks.length; i++) {
            if (held.contains(blocks[i])) {
                hits++;
                continue;
            }
            if (held.size() == lines) {
                held.remove(neededLast(held, blocks, i));
            }
            held.add(blocks[i]);
        }
        return hits;
    }

    private static Integer neededLast(Set<Integer> held, int[] blocks, int now) {
        Set<Integer> left = new HashSet<>(held);
        for (int i = now + 1; i < blocks.length && left.size() > 1; i++) {
            left.remove(blocks[i]);
        }
        return left.iterator().next();
    }

    private static String tell(String call, int lines, int bits, int[] addresses) {
        return call + "(" + lines + ", " + bits + ") after " + addresses.length + " accesses, " + addresses[0] + " the first";
    }
}
