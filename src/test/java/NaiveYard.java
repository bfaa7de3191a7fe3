import java.util.ArrayList;
import java.util.List;
import java.util.NoSuchElementException;

/** The document's promises 1 to 7 a second time, held in lists and in a tree of objects, for comparison only. */
final class NaiveYard {
    private static final class Block {
        int number;
        boolean dirty;
    }

    private static final class Node {
        final Node left;
        final Node right;
        final int first;
        final int size;
        boolean pointsLeft = true;

        Node(int first, int size) {
            this.first = first;
            this.size = size;
            left = size > 1 ? new Node(first, size / 2) : null;
            right = size > 1 ? new Node(first + size / 2, size / 2) : null;
        }

        int pointed() {
            return size == 1 ? first : (pointsLeft ? left : right).pointed();
        }

        void accessed(int place) {
            if (size > 1) {
                boolean isLeft = place < right.first;
                pointsLeft = !isLeft;
                (isLeft ? left : right).accessed(place);
            }
        }
    }

    private static final class CacheSet {
        final Block[] places;
        // The next victim of kinds 0 and 1 first.
        final List<Block> order = new ArrayList<>();
        final Node top;

        CacheSet(int places, boolean hasTree) {
            this.places = new Block[places];
            top = hasTree ? new Node(0, places) : null;
        }

        int find(Block block) {
            for (int i = 0; i < places.length; i++) {
                if (places[i] == block) {
                    return i;
                }
            }
            return -1;
        }

        Block withNumber(int number) {
            for (Block block : places) {
                if (block != null && block.number == number) {
                    return block;
                }
            }
            return null;
        }
    }

    private static final class OneCache {
        final int kind;
        final int bits;
        final int[] counts = new int[4];
        CacheSet[] sets;

        OneCache(int sets, int places, int kind, int bits) {
            this.kind = kind;
            this.bits = bits;
            this.sets = new CacheSet[sets];
            empty(places);
        }

        void empty(int places) {
            for (int i = 0; i < sets.length; i++) {
                sets[i] = new CacheSet(places, kind == 2);
            }
        }

        boolean access(int address, boolean writes) {
            int number = address / (1 << bits);
            CacheSet set = sets[number % sets.length];
            Block block = set.withNumber(number);
            boolean hit = block != null;
            counts[hit ? 0 : 1]++;
            if (!hit) {
                block = new Block();
                block.number = number;
                set.places[freePlace(set)] = block;
                set.order.add(block);
            } else if (kind == 0) {
                set.order.remove(block);
                set.order.add(block);
            }
            if (kind == 2) {
                set.top.accessed(set.find(block));
            }
            block.dirty |= writes;
            return hit;
        }

        int freePlace(CacheSet set) {
            int place = set.find(null);
            if (place >= 0) {
                return place;
            }
            place = kind == 2 ? set.top.pointed() : set.find(set.order.get(0));
            Block victim = set.places[place];
            set.order.remove(victim);
            counts[2]++;
            counts[3] += victim.dirty ? 1 : 0;
            return place;
        }

        int count(boolean dirtyOnly) {
            int count = 0;
            for (CacheSet set : sets) {
                for (Block block : set.places) {
                    count += block != null && (block.dirty || !dirtyOnly) ? 1 : 0;
                }
            }
            return count;
        }
    }

    private final OneCache[] caches = new OneCache[4];
    private int accesses = 0;

    void make(int cache, int setBits, int places, int kind, int bits) {
        boolean fits = isIn(cache, 0, 3) && isIn(setBits, 0, 4) && isIn(places, 1, 8) && isIn(kind, 0, 2) && isIn(bits, 0, 6);
        if (!fits || kind == 2 && (places == 3 || places == 5 || places == 6 || places == 7)) {
            throw new IllegalArgumentException();
        }
        caches[cache] = new OneCache(1 << setBits, places, kind, bits);
    }

    int access(int address, boolean writes) {
        if (!isIn(address, 0, 4095)) {
            throw new IllegalArgumentException();
        }
        if (accesses == 400) {
            throw new UnsupportedOperationException();
        }
        accesses++;
        int hits = 0;
        int bit = 1;
        for (OneCache cache : caches) {
            hits += cache != null && cache.access(address, writes) ? bit : 0;
            bit *= 2;
        }
        return hits;
    }

    int flush(int cache) {
        OneCache asked = find(cache);
        int dirty = asked.count(true);
        asked.counts[3] += dirty;
        asked.empty(asked.sets[0].places.length);
        return dirty;
    }

    int place(int cache, int set, int place, int what) {
        OneCache asked = find(cache);
        if (!isIn(set, 0, asked.sets.length - 1) || !isIn(place, 0, asked.sets[0].places.length - 1)) {
            throw new IndexOutOfBoundsException();
        }
        if (!isIn(what, 0, 1)) {
            throw new IllegalArgumentException();
        }
        Block block = asked.sets[set].places[place];
        if (block == null) {
            return what == 0 ? -1 : 0;
        }
        return what == 0 ? block.number : block.dirty ? 1 : 0;
    }

    int about(int cache, int what) {
        OneCache asked = find(cache);
        if (!isIn(what, 0, 5)) {
            throw new IllegalArgumentException();
        }
        return what < 4 ? asked.counts[what] : asked.count(what == 5);
    }

    int accesses() {
        return accesses;
    }

    private OneCache find(int cache) {
        if (!isIn(cache, 0, 3) || caches[cache] == null) {
            throw new NoSuchElementException();
        }
        return caches[cache];
    }

    private static boolean isIn(int value, int least, int most) {
        return value >= least && value <= most;
    }
}
