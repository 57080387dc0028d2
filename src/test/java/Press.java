import java.nio.charset.StandardCharsets;

/** A MacroPress that counts its calls: what the document says of an object it says of its first 512 calls alone. */
final class Press {
    private static final int MAX_CALLS = 512;

    private final MacroPress object = new MacroPress();
    private int calls = 0;

    private MacroPress called() {
        calls++;
        if (calls > MAX_CALLS) {
            throw new IllegalStateException("this test makes more calls than the document promises to answer");
        }
        return object;
    }

    int callsLeft() {
        return MAX_CALLS - calls;
    }

    boolean type(long w, int n) {
        return called().type(w, n);
    }

    int run(int ticks) {
        return called().run(ticks);
    }

    int ticks() {
        return called().ticks();
    }

    int size() {
        return called().size();
    }

    int out(int i) {
        return called().out(i);
    }

    int count(int k) {
        return called().count(k);
    }

    /** Types a text, a byte for each of its characters; whether all of it was taken. */
    boolean type(String text) {
        byte[] bytes = text.getBytes(StandardCharsets.ISO_8859_1);
        boolean isTaken = true;
        for (int i = 0; i < bytes.length; i += 8) {
            int n = Math.min(8, bytes.length - i);
            long w = 0;
            for (int j = 0; j < n; j++) {
                w |= (bytes[i + j] & 255L) << (8 * j);
            }
            isTaken &= type(w, n);
        }
        return isTaken;
    }

    boolean refusesRun(int ticks) {
        try {
            run(ticks);
            return false;
        } catch (IllegalArgumentException e) {
            return isExactly(e, "IllegalArgumentException");
        }
    }

    boolean refusesOut(int i) {
        try {
            out(i);
            return false;
        } catch (IndexOutOfBoundsException e) {
            return isExactly(e, "IndexOutOfBoundsException");
        }
    }

    boolean refusesCount(int k) {
        try {
            count(k);
            return false;
        } catch (IndexOutOfBoundsException e) {
            return isExactly(e, "IndexOutOfBoundsException");
        }
    }

    /** An exception of the machine's own is of a class below the one that the document names. */
    private static boolean isExactly(RuntimeException e, String name) {
        return e.getClass().getSimpleName().equals(name);
    }
}
