import java.util.NoSuchElementException;

/** Caches of several kinds that see one row of accesses, and what any cache of one set would have hit of it. */
public final class CacheYard {
    public static final int NONE = -1;

    private static final int CACHES = 4;
    private static final int ADDRESSES = 4096;
    private static final int MOST_ACCESSES = 400;
    private static final int MOST_BITS = 6;
    private static final int MOST_SET_BITS = 4;
    private static final int MOST_PLACES = 8;
    private static final int MOST_LINES = 64;

    private static final int LEAST_RECENT = 0;
    private static final int FIRST_COME = 1;
    private static final int TREE = 2;

    // An entry is null until that cache is made for the first time; a later make uses the same object again.
    private final Cache[] caches;
    private final Row row;

    public CacheYard() {
        caches = new Cache[CACHES];
        row = new Row();
    }

    public void make(int cache, int setBits, int places, int kind, int bits) throws IllegalArgumentException {
        if (cache < 0 || cache >= CACHES) {
            throw new IllegalArgumentException("caches are 0 .. 3");
        }
        if (setBits < 0 || setBits > MOST_SET_BITS) {
            throw new IllegalArgumentException("the sets' bits are 0 .. 4");
        }
        if (places < 1 || places > MOST_PLACES) {
            throw new IllegalArgumentException("places are 1 .. 8");
        }
        if (kind < LEAST_RECENT || kind > TREE) {
            throw new IllegalArgumentException("kinds are 0 .. 2");
        }
        if (kind == TREE && Integer.bitCount(places) != 1) {
            throw new IllegalArgumentException("a tree has 1, 2, 4 or 8 places");
        }
        if (!areBits(bits)) {
            throw new IllegalArgumentException("bits are 0 .. 6");
        }
        Cache made = caches[cache];
        if (made == null) {
            made = new Cache();
            caches[cache] = made;
        }
        made.become(setBits, places, kind, bits);
    }

    public int access(int address, boolean writes) throws IllegalArgumentException, UnsupportedOperationException {
        if (address < 0 || address >= ADDRESSES) {
            throw new IllegalArgumentException("addresses are 0 .. 4095");
        }
        int number = row.length();
        if (number >= MOST_ACCESSES) {
            throw new UnsupportedOperationException("no more than 400 accesses are kept");
        }
        row.keep(address);
        int hits = 0;
        for (int i = 0; i < CACHES; i++) {
            Cache seer = caches[i];
            if (seer != null && seer.sees(address, writes, number)) {
                hits |= 1 << i;
            }
        }
        return hits;
    }

    public int flush(int cache) throws NoSuchElementException {
        return madeCache(cache).letAllGo();
    }

    public int place(int cache, int set, int place, int what)
            throws NoSuchElementException, IndexOutOfBoundsException, IllegalArgumentException {
        Cache asked = madeCache(cache);
        if (!asked.hasPlace(set, place)) {
            throw new IndexOutOfBoundsException("the cache has no such set or place");
        }
        switch (what) {
            case 0:
                return asked.blockAt(set, place);
            case 1:
                return asked.isDirtyAt(set, place) ? 1 : 0;
            default:
                throw new IllegalArgumentException("of a place 0 and 1 are told");
        }
    }

    public int about(int cache, int what) throws NoSuchElementException, IllegalArgumentException {
        Cache asked = madeCache(cache);
        switch (what) {
            case 0:
                return asked.hits;
            case 1:
                return asked.misses;
            case 2:
                return asked.victims;
            case 3:
                return asked.writtenBack;
            case 4:
                return asked.countHeld();
            case 5:
                return asked.countDirty();
            default:
                throw new IllegalArgumentException("of a cache 0 .. 5 are told");
        }
    }

    public int accesses() {
        return row.length();
    }

    public int curve(int lines, int bits) throws IllegalArgumentException {
        requireLinesAndBits(lines, bits);
        return row.countHits(lines, bits, false);
    }

    public int best(int lines, int bits) throws IllegalArgumentException {
        requireLinesAndBits(lines, bits);
        return row.countHits(lines, bits, true);
    }

    private Cache madeCache(int cache) {
        if (cache < 0 || cache >= CACHES) {
            throw new NoSuchElementException("caches are 0 .. 3");
        }
        Cache made = caches[cache];
        if (made == null) {
            throw new NoSuchElementException("this cache has not been made");
        }
        return made;
    }

    private static void requireLinesAndBits(int lines, int bits) {
        if (lines < 1 || lines > MOST_LINES) {
            throw new IllegalArgumentException("lines are 1 .. 64");
        }
        if (!areBits(bits)) {
            throw new IllegalArgumentException("bits are 0 .. 6");
        }
    }

    private static boolean areBits(int bits) {
        return bits >= 0 && bits <= MOST_BITS;
    }

    /** One cache. Its rows are as long as the largest cache needs, so that it can become any other one. */
    private static final class Cache {
        private int setBits;
        private int places;
        private int kind;
        private int bits;

        // The places of all sets, one set behind the other.
        private final int[] blocks = new int[(1 << MOST_SET_BITS) * MOST_PLACES];
        private final boolean[] dirty = new boolean[(1 << MOST_SET_BITS) * MOST_PLACES];
        // The number of the access that counts for a victim: the latest one, or for FIRST_COME the one of coming.
        private final int[] stamps = new int[(1 << MOST_SET_BITS) * MOST_PLACES];
        // One tree a set: bit n is node n, set if it points to the right; 1 is the top, 2n and 2n + 1 are below n.
        private final int[] trees = new int[1 << MOST_SET_BITS];

        int hits;
        int misses;
        int victims;
        int writtenBack;

        /** The shape must be as the document wants it. */
        void become(int newSetBits, int newPlaces, int newKind, int newBits) {
            setBits = newSetBits;
            places = newPlaces;
            kind = newKind;
            bits = newBits;
            hits = 0;
            misses = 0;
            victims = 0;
            writtenBack = 0;
            emptyAll();
        }

        /** Whether it hits. The access's number must be above those of all accesses that it saw before. */
        boolean sees(int address, boolean writes, int number) {
            int block = address >> bits;
            int set = block & (countSets() - 1);
            int place = findPlace(set, block);
            boolean hit = place != NONE;
            if (hit) {
                hits++;
            } else {
                misses++;
                place = bringIn(set, block);
            }
            int at = slotOf(set, place);
            if (writes) {
                dirty[at] = true;
            }
            if (!hit || kind != FIRST_COME) {
                stamps[at] = number;
            }
            if (kind == TREE) {
                pointAway(set, place);
            }
            return hit;
        }

        int letAllGo() {
            int dirtyOnes = countDirty();
            writtenBack += dirtyOnes;
            emptyAll();
            return dirtyOnes;
        }

        boolean hasPlace(int set, int place) {
            return set >= 0 && set < countSets() && place >= 0 && place < places;
        }

        int blockAt(int set, int place) {
            return blocks[slotOf(set, place)];
        }

        boolean isDirtyAt(int set, int place) {
            return dirty[slotOf(set, place)];
        }

        int countHeld() {
            int held = 0;
            for (int at = 0; at < blocks.length; at++) {
                if (blocks[at] != NONE) {
                    held++;
                }
            }
            return held;
        }

        int countDirty() {
            int dirtyOnes = 0;
            for (int at = 0; at < dirty.length; at++) {
                if (dirty[at]) {
                    dirtyOnes++;
                }
            }
            return dirtyOnes;
        }

        // All of the rows, not only the part in use: the counts go over all of them.
        private void emptyAll() {
            for (int at = 0; at < blocks.length; at++) {
                blocks[at] = NONE;
                dirty[at] = false;
                stamps[at] = 0;
            }
            for (int set = 0; set < trees.length; set++) {
                trees[set] = 0;
            }
        }

        private int countSets() {
            return 1 << setBits;
        }

        private int slotOf(int set, int place) {
            return set * places + place;
        }

        /** The first place of the set that has the block, or that is empty if the block is NONE. */
        private int findPlace(int set, int block) {
            for (int place = 0; place < places; place++) {
                if (blockAt(set, place) == block) {
                    return place;
                }
            }
            return NONE;
        }

        /** The place to which the block comes. */
        private int bringIn(int set, int block) {
            int place = findPlace(set, NONE);
            if (place == NONE) {
                place = kind == TREE ? pointedPlace(set) : oldestPlace(set);
                victims++;
                if (isDirtyAt(set, place)) {
                    writtenBack++;
                }
            }
            int at = slotOf(set, place);
            blocks[at] = block;
            dirty[at] = false;
            return place;
        }

        private int oldestPlace(int set) {
            int oldest = 0;
            for (int place = 1; place < places; place++) {
                if (stamps[slotOf(set, place)] < stamps[slotOf(set, oldest)]) {
                    oldest = place;
                }
            }
            return oldest;
        }

        private int pointedPlace(int set) {
            int tree = trees[set];
            int node = 1;
            int place = 0;
            for (int half = places >> 1; half > 0; half >>= 1) {
                int right = (tree >> node) & 1;
                place += right * half;
                node = 2 * node + right;
            }
            return place;
        }

        private void pointAway(int set, int place) {
            int tree = trees[set];
            int node = 1;
            for (int half = places >> 1; half > 0; half >>= 1) {
                if ((place & half) != 0) {
                    tree &= ~(1 << node);
                    node = 2 * node + 1;
                } else {
                    tree |= 1 << node;
                    node = 2 * node;
                }
            }
            trees[set] = tree;
        }
    }

    /** All accesses, and what a cache of one set would have made of them. */
    private static final class Row {
        // Above the number of every access, so that a block without a next use is needed the latest of all.
        private static final int NEVER = MOST_ACCESSES;

        private final int[] addresses = new int[MOST_ACCESSES];
        private int count;

        // What countHits works with; made once, as each call needs it whole and none needs what another left.
        private final int[] nextUses = new int[MOST_ACCESSES];
        private final int[] firstUses = new int[ADDRESSES];
        private final int[] lineUses = new int[MOST_LINES];

        int length() {
            return count;
        }

        void keep(int address) {
            if (count < MOST_ACCESSES) {
                addresses[count] = address;
                count++;
            }
        }

        /**
         * A line is known by the next access of its block alone, which tells both a hit and the best victim:
         * the block that is needed again the latest. The lines stand in the order of use, the latest first.
         */
        int countHits(int lines, int bits, boolean choosesBest) {
            findNextUses(bits);
            int held = 0;
            int hits = 0;
            for (int i = 0; i < count; i++) {
                int line = findLine(i, held);
                if (line != NONE) {
                    hits++;
                } else if (held < lines) {
                    line = held;
                    held++;
                } else {
                    line = choosesBest ? lineNeededLast(held) : held - 1;
                }
                bringToFront(line, nextUses[i]);
            }
            return hits;
        }

        private void findNextUses(int bits) {
            for (int i = 0; i < count; i++) {
                firstUses[addresses[i] >> bits] = NEVER;
            }
            for (int i = count - 1; i >= 0; i--) {
                int block = addresses[i] >> bits;
                nextUses[i] = firstUses[block];
                firstUses[block] = i;
            }
        }

        private int findLine(int use, int held) {
            for (int line = 0; line < held; line++) {
                if (lineUses[line] == use) {
                    return line;
                }
            }
            return NONE;
        }

        private int lineNeededLast(int held) {
            int last = 0;
            for (int line = 1; line < held; line++) {
                if (lineUses[line] > lineUses[last]) {
                    last = line;
                }
            }
            return last;
        }

        private void bringToFront(int line, int use) {
            for (int k = line; k > 0; k--) {
                lineUses[k] = lineUses[k - 1];
            }
            lineUses[0] = use;
        }
    }
}
