import java.util.NoSuchElementException;
import java.util.function.IntSupplier;

/** Counts answers that are not as due, and ends a test with the exit code for it. */
final class Checks {
    static final Class<IllegalArgumentException> ILLEGAL = IllegalArgumentException.class;
    static final Class<NoSuchElementException> NO_ELEMENT = NoSuchElementException.class;
    static final Class<IndexOutOfBoundsException> OUT_OF_BOUNDS = IndexOutOfBoundsException.class;
    static final Class<UnsupportedOperationException> UNSUPPORTED = UnsupportedOperationException.class;

    private String sentence = "";
    private int made = 0;
    private int wrong = 0;

    /** The words of the document that the answers from here on belong to. */
    void sentence(String words) {
        sentence = "\"" + words + "\": ";
    }

    void due(String call, long got, long want) {
        made++;
        if (got != want) {
            fault(call + " answered " + got + ", due is " + want);
        }
    }

    /** The class must be the very one: an IndexOutOfBoundsException of an array is a fault of the program. */
    void dueThrow(String call, Class<? extends RuntimeException> want, Runnable run) {
        made++;
        Class<?> got = null;
        try {
            run.run();
        } catch (RuntimeException e) {
            got = e.getClass();
        }
        if (got != want) {
            fault(call + " threw " + got + ", due is " + want);
        }
    }

    void dueSame(String call, String got, String want) {
        made++;
        if (!got.equals(want)) {
            fault(call + " answered\n  " + got + "\ndue is\n  " + want);
        }
    }

    /** The blocks of a set, from place 0 on. */
    void dueSet(CacheYard x, int cache, int set, int... blocks) {
        for (int place = 0; place < blocks.length; place++) {
            String call = "place(" + cache + ", " + set + ", " + place + ", 0)";
            due(call, x.place(cache, set, place, 0), blocks[place]);
        }
    }

    /** What about() tells of a cache, from what = 0 on. */
    void dueAbout(CacheYard x, int cache, int... told) {
        for (int what = 0; what < told.length; what++) {
            due("about(" + cache + ", " + what + ")", x.about(cache, what), told[what]);
        }
    }

    private void fault(String text) {
        wrong++;
        System.out.println(sentence + text);
    }

    static void read(CacheYard x, int... addresses) {
        for (int address : addresses) {
            x.access(address, false);
        }
    }

    static void write(CacheYard x, int... addresses) {
        for (int address : addresses) {
            x.access(address, true);
        }
    }

    /** Numbers outside of least .. most: the nearest ones, and those that are the farthest. */
    static int[] outside(int least, int most) {
        return new int[] {least - 1, most + 1, Integer.MIN_VALUE, Integer.MAX_VALUE};
    }

    /** The answer, or the thrown exception's name in the way of the issues. */
    static String answer(IntSupplier call) {
        try {
            return Integer.toString(call.getAsInt());
        } catch (RuntimeException e) {
            return "throws." + e.getClass().getSimpleName();
        }
    }

    boolean isFull() {
        return wrong > 20;
    }

    void end(String test) {
        System.out.println(test + ": " + made + " answers looked at, " + wrong + " not as due");
        if (wrong != 0 || made == 0) {
            System.exit(1);
        }
    }
}
