import java.util.ArrayList;
import java.util.List;

/** The ELEMENTS of a SET or HEADER in their order, each with its range, so that each can be changed alone. */
final class Elements {
    static final long WITHOUT = Long.MAX_VALUE;

    private static final class One {
        String name;
        char code;
        int bits;
        long value;
        long low;
        long high;
        /** Whether others follow by its value, so that it stays as it is where nothing must be wrong. */
        boolean tells;
    }

    private final List<One> all = new ArrayList<>();

    private Elements add(String name, char code, int bits, long value, long low, long high) {
        One e = new One();
        e.name = name;
        e.code = code;
        e.bits = bits;
        e.value = value;
        e.low = low;
        e.high = high;
        all.add(e);
        return this;
    }

    /** u(n) of any value. */
    Elements u(String name, int n, long v) {
        return add(name, 'u', n, v, 0, (1L << n) - 1);
    }

    /** u(n), 0 up to a bound. */
    Elements u(String name, int n, long v, long high) {
        return add(name, 'u', n, v, 0, high);
    }

    /** u(1) that must be so. */
    Elements flag(String name, int due) {
        return add(name, 'u', 1, due, due, due);
    }

    Elements ue(String name, long v, long high) {
        return add(name, 'e', 0, v, 0, high);
    }

    Elements se(String name, long v, long low, long high) {
        return add(name, 's', 0, v, low, high);
    }

    /** ue or se whose range is looked at elsewhere. */
    Elements any(String name, char code, long v) {
        return add(name, code, 0, v, WITHOUT, WITHOUT).tells();
    }

    /** The latest one tells what follows. */
    Elements tells() {
        all.get(all.size() - 1).tells = true;
        return this;
    }

    int size() {
        return all.size();
    }

    String name(int i) {
        return all.get(i).name;
    }

    boolean isPlain(int i) {
        return all.get(i).code == 'u';
    }

    long value(int i) {
        return all.get(i).value;
    }

    /** What may be at most and at least, without what tells more. */
    long[] ends(int i) {
        One e = all.get(i);
        return e.tells ? new long[] {e.value} : new long[] {e.low, e.high};
    }

    /** What may not be, as near as it can be. */
    long[] beyond(int i) {
        One e = all.get(i);
        if (e.code == 'u') {
            long least = e.low > 0 ? e.low - 1 : WITHOUT;
            long most = e.high + 1 < 1L << e.bits ? e.high + 1 : WITHOUT;
            return new long[] {least, most};
        }
        if (e.high == WITHOUT) {
            return new long[0];
        }
        return new long[] {e.code == 's' ? e.low - 1 : WITHOUT, e.high + 1};
    }

    private static void put(Bits b, One e, long v) {
        if (e.code == 'u') {
            b.u(e.bits, v);
        } else if (e.code == 'e') {
            b.ue(v);
        } else {
            b.se(v);
        }
    }

    /** The first n of them, and number i as another value. */
    Bits bits(int n, int i, long v) {
        Bits b = new Bits();
        for (int k = 0; k < n; k++) {
            put(b, all.get(k), k == i ? v : all.get(k).value);
        }
        return b;
    }

    Bits bits() {
        return bits(all.size(), -1, 0);
    }

    int place(int i) {
        return bits(i, -1, 0).length();
    }

    /** Which one a place is in. */
    int at(int place) {
        int i = 0;
        while (i + 1 < all.size() && place(i + 1) <= place) {
            i++;
        }
        return i;
    }
}
