/** The DATA of a SLICE behind its HEADER, ELEMENT by ELEMENT, by TABLES or by ARITH. */
final class Data {
    private static final int[] LOWER = Codes.numbers(Codes.between("LOWER (s 0 first):", "DOWN:"));
    private static final int[] DOWN = Codes.numbers(Codes.between("DOWN:", "```"));

    private final Bits bits;
    private final boolean isArith;
    private final boolean isI;
    private final int lead;
    private final int[] state = new int[272];
    private final int[] likely = new int[272];
    /** Whether bits are decisions now. */
    private boolean decides;
    private int low;
    private int range;
    private int owed;
    private boolean isFirst;
    private int run;
    private int blocks;
    /** How many bits ARITH's reader has taken of BITS. */
    private int taken;
    /** Where the latest ELEMENT began. */
    private int began;

    Data(Bits header, boolean arith, boolean onlyI, int first) {
        bits = header;
        isArith = arith;
        isI = onlyI;
        lead = first;
        if (isArith) {
            bits.align(1);
            begin();
        }
    }

    private void begin() {
        taken = bits.length() + 9;
        low = 0;
        range = 510;
        owed = 0;
        isFirst = true;
        decides = true;
    }

    private void put(int b) {
        if (!isFirst) {
            bits.u(1, b);
        }
        isFirst = false;
        for (; owed > 0; owed--) {
            bits.u(1, 1 - b);
        }
    }

    private void widen() {
        while (range < 256) {
            taken++;
            if (low < 256) {
                put(0);
            } else if (low >= 512) {
                put(1);
                low -= 512;
            } else {
                owed++;
                low -= 256;
            }
            range *= 2;
            low *= 2;
        }
    }

    /** Bit j of the ELEMENT number e. */
    Data bit(int e, int j, int b) {
        began = j == 0 ? bits.length() : began;
        if (!decides) {
            bits.u(1, b);
            return this;
        }
        int i = 16 * e + Math.min(j, 15);
        int r = LOWER[4 * state[i] + (range >> 6 & 3)];
        range -= r;
        if (b == likely[i]) {
            state[i] = Math.min(62, state[i] + 1);
        } else {
            low += range;
            range = r;
            likely[i] = state[i] == 0 ? b : likely[i];
            state[i] = DOWN[state[i]];
        }
        widen();
        return this;
    }

    Data end(boolean isEnd) {
        range -= 2;
        if (isEnd) {
            low += range;
            range = 2;
        }
        widen();
        if (isEnd) {
            put(low >> 9 & 1);
            bits.u(1, low >> 8 & 1).u(1, 1);
            decides = false;
        }
        return this;
    }

    /** The bits of a CODE. */
    Data code(int e, String text) {
        String row = text.replace(" ", "");
        for (int j = 0; j < row.length(); j++) {
            bit(e, j, row.charAt(j) - '0');
        }
        return this;
    }

    Data u(int e, int n, int v) {
        for (int j = 0; j < n; j++) {
            bit(e, j, v >> (n - 1 - j) & 1);
        }
        return this;
    }

    /** So many bits 0, then a 1. */
    Data ue0(int e, int zeros) {
        return code(e, "0".repeat(zeros) + "1");
    }

    Data ue(int e, long v) {
        String one = Long.toBinaryString(v + 1);
        return code(e, "0".repeat(one.length() - 1) + one);
    }

    Data se(int e, int v) {
        return ue(e, v > 0 ? 2L * v - 1 : -2L * v);
    }

    Data te(int most, int v) {
        return most == 1 ? bit(6, 0, 1 - v) : ue(6, v);
    }

    private void next() {
        if (isArith && blocks > 0) {
            end(false);
        }
        blocks++;
    }

    Data skipped(int n) {
        for (int i = 0; i < n; i++) {
            next();
            if (isArith) {
                bit(0, 0, 1);
            } else {
                run++;
            }
        }
        return this;
    }

    /** A BLOCK's type. */
    Data type(int t) {
        next();
        if (isArith && !isI) {
            bit(0, 0, 0);
        } else if (!isI) {
            ue(0, run);
            run = 0;
        }
        return ue(1, t);
    }

    /** Bits as they are, not as decisions. */
    Data bits(int n, int v) {
        bits.u(n, v);
        return this;
    }

    Data align(int bit) {
        bits.align(bit);
        return this;
    }

    /** How many bits there are. */
    int length() {
        return bits.length();
    }

    /** In ARITH the END decision before RAW's samples. */
    Data leave() {
        return isArith ? end(true) : this;
    }

    /** RAW's samples; one of each plane, or one for all, where there are not 384. */
    Data samples(int... all) {
        for (int i = 0; i < 384; i++) {
            bits.u(8, all[all.length == 384 ? i : all.length == 3 ? (i < 256 ? 0 : i < 320 ? 1 : 2) : 0]);
        }
        if (isArith) {
            begin();
        }
        return this;
    }

    /** What follows the type of RAW. */
    Data raw(int... all) {
        return leave().align(0).samples(all);
    }

    /** A mode of FOUR that is the GUESS; else what the rest is. */
    Data given() {
        return bit(2, 0, 1);
    }

    Data rest(int r) {
        return bit(2, 0, 0).u(3, 3, r);
    }

    Data colours(int mode) {
        return ue(4, mode);
    }

    Data sub(int... subs) {
        for (int s : subs) {
            ue(5, s);
        }
        return this;
    }

    /** VECTORS less their GUESS, x and y. */
    Data move(int... xy) {
        for (int i = 0; i < xy.length; i++) {
            se(7 + i % 2, xy[i]);
        }
        return this;
    }

    Data pattern(int code) {
        return ue(9, code);
    }

    Data more(int v) {
        return se(10, v);
    }

    Data token(String text) {
        return code(11, text);
    }

    /** The place behind what there is: in ARITH how many bits are taken. */
    int place() {
        return isArith ? taken : bits.length();
    }

    /** The place of a FAULT that is met with the latest ELEMENT. */
    int mark() {
        return isArith ? taken : began;
    }

    /** The SLICE is not ended: BITS end where they are. */
    byte[] cut() {
        return bits.plain(lead);
    }

    byte[] unit() {
        if (isArith) {
            return end(true).bits.plain(lead);
        }
        if (run > 0) {
            ue(0, run);
            run = 0;
        }
        return bits.unit(lead);
    }
}
