/** Bits that are put one behind the other, and what UNITS are made of them. */
final class Bits {
    private final StringBuilder bits = new StringBuilder();

    Bits u(int n, long v) {
        for (int i = n - 1; i >= 0; i--) {
            bits.append((v >> i & 1) == 1 ? '1' : '0');
        }
        return this;
    }

    Bits ue(long v) {
        int z = 63 - Long.numberOfLeadingZeros(v + 1);
        return u(z, 0).u(z + 1, v + 1);
    }

    Bits se(long v) {
        return ue(v > 0 ? 2 * v - 1 : -2 * v);
    }

    Bits te(int most, int v) {
        return most == 1 ? u(1, 1 - v) : ue(v);
    }

    Bits put(String text) {
        bits.append(text.replace(" ", ""));
        return this;
    }

    Bits align(int bit) {
        while (bits.length() % 8 != 0) {
            u(1, bit);
        }
        return this;
    }

    int length() {
        return bits.length();
    }

    String toText() {
        return bits.toString();
    }

    /** A UNIT: the first byte, these bits, STOP, bits 0 up to a whole byte; a 3 behind two 0, where one is due. */
    byte[] unit(int first) {
        return new Bits().put(bits.toString()).u(1, 1).plain(first);
    }

    /** Likewise, but without STOP. */
    byte[] plain(int first) {
        String all = new Bits().put(bits.toString()).align(0).bits.toString();
        byte[] out = new byte[2 * all.length() / 8 + 2];
        int n = 0;
        int zeros = 0;
        for (int i = -8; i < all.length(); i += 8) {
            int v = i < 0 ? first : Integer.parseInt(all.substring(i, i + 8), 2);
            if (zeros >= 2 && v < 4) {
                out[n++] = 3;
                zeros = 0;
            }
            out[n++] = (byte) v;
            zeros = v == 0 ? zeros + 1 : 0;
        }
        return java.util.Arrays.copyOf(out, n);
    }
}
