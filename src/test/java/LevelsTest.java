/** Section 4: LEVELS by both codings: TOKEN and its tables, sizes, ZEROS, RUN, and what stands where. */
public final class LevelsTest {
    private static final int OUT = 2;
    private static final int WRONG = 4;
    /** TABLES 0, ARITH 1. */
    private static int coding;

    public static void main(String[] args) {
        for (coding = 0; coding < 2; coding++) {
            tables();
            means();
            othersTotals();
            coloursTotals();
            coloursBesideRaw();
            tokens();
            tokensAboveN();
            sixBits();
            prefixes();
            sizes();
            manySizes();
            places();
            places15();
            places4();
            zerosAboveN();
            runsAboveLeft();
            noCode();
        }
        Check.end();
    }

    private static Streams sets(int wide, int high) {
        Streams s = new Streams().size(wide, high);
        s.coding = coding;
        return s.sets();
    }

    private static VideoSuite decoded(Streams s, byte[] unit) {
        Streams t = new Streams();
        t.bytes.writeBytes(s.bytes.toByteArray());
        VideoSuite v = t.add(unit).object();
        v.decode(400);
        return v;
    }

    private static String by(String what) {
        return (coding == 0 ? "TABLES, " : "ARITH, ") + what;
    }

    private static VideoSuite whole(String what, Streams s, Data d) {
        VideoSuite v = decoded(s, d.unit());
        Check.due(by(what) + ": FAULTS", v.count(4), 0);
        return v;
    }

    private static void fault(String what, Streams s, Data d, int kind) {
        int place = d.mark();
        VideoSuite v = decoded(s, d.unit());
        Check.due(by(what) + ": FAULTS", v.count(4), 1);
        Check.answers(by(what) + ": its place", place, () -> v.fault(0, 1));
        Check.answers(by(what) + ": its kind", kind, () -> v.fault(0, 2));
    }

    /** FOUR with the GUESS everywhere, up to its pattern: of luma all quarters, of chroma as told. */
    private static Data four(Data d, int chroma) {
        d.type(0);
        for (int b = 0; b < 16; b++) {
            d.given();
        }
        // codes of the patterns 15, 31, 47
        return d.colours(0).pattern(chroma == 0 ? 2 : chroma == 1 ? 1 : 0).more(0);
    }

    private static int tableOf(int n) {
        return n < 2 ? 0 : n < 4 ? 1 : n < 8 ? 2 : 3;
    }

    /** FOUR whose piece 0 has a TOTAL: that of piece 1 goes by it alone. */
    private static void tables() {
        Streams s = sets(1, 1);
        for (int t = 0; t <= 16; t++) {
            Data d = four(s.head(5, 2).data(), 0);
            Codes.ones(d, 0, 16, t);
            Codes.ones(d, tableOf(t), 16, 1);
            // piece 2 by piece 0 above it, piece 3 by both, the others by none or these
            Codes.ones(d, tableOf(t), 16, 0);
            Codes.ones(d, tableOf(0 + 1 + 1 >> 1), 16, 0);
            for (int b = 4; b < 16; b++) {
                int left = b == 4 ? 1 : 0;
                Codes.ones(d, tableOf(left), 16, 0);
            }
            VideoSuite v = whole("a left TOTAL of " + t, s, d);
            Check.due(by("P20 its last LEVEL"), v.level(0, 0, t == 0 ? 0 : t - 1), t == 0 ? 0 : 1);
            Check.due(by("P20 the next one's"), v.level(0, 1, 0), 1);
        }
    }

    /** TOTALS at the left and above: their mean, rounded up. */
    private static void means() {
        Streams s = sets(1, 1);
        int[][] totals = {{0, 1}, {1, 0}, {1, 2}, {3, 0}, {0, 3}, {2, 4}, {3, 4}, {7, 6}, {7, 7}, {7, 8}, {16, 16}, {0, 16},
            {15, 0}, {13, 0}, {14, 0}, {5, 2}};
        for (int[] k : totals) {
            Data d = four(s.head(5, 2).data(), 0);
            Codes.ones(d, 0, 16, 0);
            Codes.ones(d, 0, 16, k[1]);
            Codes.ones(d, 0, 16, k[0]);
            Codes.ones(d, tableOf(k[0] + k[1] + 1 >> 1), 16, 2);
            for (int b = 4; b < 16; b++) {
                // at the edges there is one alone; pieces 6 and 9 have one of 2 and one of 0
                Codes.ones(d, b == 4 ? tableOf(k[1]) : b == 8 ? tableOf(k[0]) : 0, 16, 0);
            }
            VideoSuite v = whole("TOTALS of " + k[0] + " and " + k[1], s, d);
            Check.due(by("P20 piece 3"), v.level(0, 3, 1), 1);
        }
    }

    /** RAW counts 16, SKIPPED 0, EVEN 16 not at all. */
    private static void othersTotals() {
        Streams s = sets(2, 1);
        Data d = s.head(5, 2).data().type(25).raw(100).type(3).colours(0).more(0);
        whole("behind RAW", s, Codes.ones(d, 3, 16, 16));
        d = s.head(5, 2).data().type(3).colours(0).more(0);
        Codes.ones(d, 0, 16, 16).type(3).colours(0).more(0);
        whole("behind EVEN 16", s, Codes.ones(d, 0, 16, 5));
        s.add(s.head(5, 2).data().type(25).raw(1).type(25).raw(2).unit());
        d = s.head(1, 0).at(1, 2).data().skipped(1).type(5 + 3).colours(0).more(0);
        whole("behind SKIPPED", s, Codes.ones(d, 0, 16, 3));
        // of another SLICE none is THERE
        s.add(s.head(1, 2).at(1, 4).data().type(25).raw(1).unit());
        d = s.head(1, 2).at(1, 4).from(1).data().type(3).colours(0).more(0);
        whole("behind another SLICE", s, Codes.ones(d, 0, 16, 3));
        // EVEN 16 goes as piece 0, whose NEIGHBOUR is piece 5 of the left BLOCK
        s = sets(2, 1);
        d = four(s.head(5, 2).data(), 0);
        for (int b = 0; b < 16; b++) {
            // below piece 5 stands piece 7
            Codes.ones(d, b == 7 ? tableOf(3) : 0, 16, b == 5 ? 6 : 0);
        }
        d.type(3).colours(0).more(0);
        whole("EVEN 16 by piece 5 at the left", s, Codes.ones(d, 2, 16, 2));
    }

    /** Chroma goes by the pieces of its plane, the EVEN ones not counted. */
    private static void coloursTotals() {
        Streams s = sets(2, 1);
        Data d = s.head(5, 2).data().type(3 + 8).colours(0).more(0);
        Codes.ones(d, 0, 16, 0);
        Codes.ones(d, 4, 4, 4);
        Codes.ones(d, 4, 4, 3);
        int[] first = {2, 4, 8, 15};
        int[] second = {0, 1, 0, 9};
        Codes.ones(d, 0, 15, first[0]);
        Codes.ones(d, tableOf(2), 15, first[1]);
        Codes.ones(d, tableOf(2), 15, first[2]);
        Codes.ones(d, tableOf(8 + 4 + 1 >> 1), 15, first[3]);
        Codes.ones(d, 0, 15, second[0]);
        Codes.ones(d, 0, 15, second[1]);
        Codes.ones(d, 0, 15, second[2]);
        Codes.ones(d, tableOf(0 + 1 + 1 >> 1), 15, second[3]);
        d.type(3 + 8).colours(0).more(0);
        Codes.ones(d, 0, 16, 0);
        Codes.ones(d, 4, 4, 0);
        Codes.ones(d, 4, 4, 0);
        Codes.ones(d, tableOf(4), 15, 1);
        Codes.ones(d, tableOf(1), 15, 0);
        Codes.ones(d, tableOf(15 + 1 + 1 >> 1), 15, 0);
        Codes.ones(d, tableOf(0), 15, 0);
        Codes.ones(d, tableOf(1), 15, 0);
        Codes.ones(d, 0, 15, 0);
        Codes.ones(d, tableOf(9 + 0 + 1 >> 1), 15, 6);
        Codes.ones(d, tableOf(6 + 0 + 1 >> 1), 15, 0);
        VideoSuite v = whole("chroma", s, d);
        for (int c = 0; c < 4; c++) {
            Check.due(by("P20 from place 1 on, " + c), v.level(0, 19 + c, 0), 0);
            Check.due(by("P20 the last one, " + c), v.level(0, 19 + c, first[c]), 1);
            Check.due(by("P20 none behind, " + c), first[c] < 15 ? v.level(0, 19 + c, first[c] + 1) : 0, 0);
            Check.due(by("P20 of the other plane, " + c), v.level(0, 23 + c, 1), second[c] > 0 ? 1 : 0);
        }
        Check.due(by("P20 of the next BLOCK"), v.level(1, 25, 6), 1);
    }

    /** RAW counts 16 for chroma too, and for its own BLOCK alone. */
    private static void coloursBesideRaw() {
        Streams s = sets(2, 2);
        Data d = s.head(5, 2).data().type(3).colours(0).more(0);
        Codes.ones(d, 0, 16, 0).type(25).raw(50);
        // below the first one: nothing but 0 around
        d.type(3 + 8).colours(0).more(0);
        Codes.ones(d, 0, 16, 0);
        Codes.ones(d, 4, 4, 0);
        Codes.ones(d, 4, 4, 0);
        for (int i = 0; i < 8; i++) {
            Codes.ones(d, 0, 15, 0);
        }
        // below the RAW one: pieces 0 and 1 of each plane see it above
        d.type(3 + 8).colours(0).more(0);
        Codes.ones(d, 3, 16, 0);
        Codes.ones(d, 4, 4, 0);
        Codes.ones(d, 4, 4, 0);
        for (int i = 0; i < 8; i++) {
            Codes.ones(d, i % 4 < 2 ? 3 : 0, 15, i % 4 == 3 ? 1 : 0);
        }
        VideoSuite v = whole("chroma beside RAW", s, d);
        Check.due(by("P20 the last piece"), v.level(3, 26, 1), 1);
        // SKIPPED counts 0
        Streams t = sets(2, 1);
        t.add(t.head(5, 2).data().type(25).raw(1).type(25).raw(2).unit());
        d = t.head(1, 0).at(1, 2).data().skipped(1).type(5 + 3 + 8).colours(0).more(0);
        Codes.ones(d, 0, 16, 0);
        Codes.ones(d, 4, 4, 0);
        Codes.ones(d, 4, 4, 0);
        for (int i = 0; i < 8; i++) {
            Codes.ones(d, 0, 15, 0);
        }
        whole("chroma beside SKIPPED", t, d);
    }

    private static String zero(int n) {
        return "0".repeat(n);
    }

    /** Each TOKEN of each table tells TOTAL and ONES. */
    private static void tokens() {
        for (int table = 0; table < 5; table++) {
            int most = table == 4 ? 4 : 16;
            for (int t = 0; t <= most; t++) {
                for (int o = 0; o <= Math.min(t, 3); o++) {
                    Streams s = sets(2, 1);
                    Data d = behind(s, table);
                    int n = table == 4 ? 4 : 16;
                    int[] level = new int[n];
                    for (int i = 0; i < t; i++) {
                        // the first o of them (by descending places) are of size 1, the next one is not
                        level[t - 1 - i] = i < o ? (i % 2 == 0 ? -1 : 1) : i == o && o < 3 ? 3 : 2;
                    }
                    Codes.levels(d, table, n, level);
                    if (table == 4) {
                        d.token(Codes.token(4, 0, 0));
                    }
                    VideoSuite v = whole("TOKEN of table " + table + " for " + t + ", " + o, s, d);
                    int row = table == 4 ? 17 : 16;
                    int mb = table == 4 ? 0 : 1;
                    for (int i = 0; i < n; i++) {
                        Check.due(by("P20 LEVEL " + i + " of " + t + ", " + o), v.level(mb, row, i), level[i]);
                    }
                    if (coding == 0 && table < 3 && t == 0) {
                        Check.due("P25 TOKEN of 0, 0", v.element(v.count(8) - 1, 2), 0);
                    }
                }
            }
        }
    }

    /** The second BLOCK's EVEN 16 by a table (of the first one's piece 5), or the first BLOCK's EVEN 4. */
    private static Data behind(Streams s, int table) {
        Data d = s.head(5, 2).data();
        if (table == 4) {
            d.type(3 + 4).colours(0).more(0);
            return Codes.ones(d, 0, 16, 0);
        }
        if (table == 3) {
            return d.type(25).raw(9).type(3).colours(0).more(0);
        }
        four(d, 0);
        int total = table == 0 ? 1 : table == 1 ? 2 : 4;
        for (int b = 0; b < 16; b++) {
            // below piece 5 stands piece 7
            Codes.ones(d, b == 7 ? tableOf(total + 1 >> 1) : 0, 16, b == 5 ? total : 0);
        }
        return d.type(3).colours(0).more(0);
    }

    /** t above n: 4, behind TOKEN. */
    private static void tokensAboveN() {
        for (int o = 0; o < 4; o++) {
            Streams s = sets(1, 1);
            Data d = s.head(5, 2).data().type(3 + 12).colours(0).more(0);
            Codes.ones(d, 0, 16, 0);
            fault("a TOTAL of 16 of 15, ONES " + o, s, d.token(Codes.token(0, 16, o)), WRONG);
        }
        Streams s = sets(2, 1);
        Data d = s.head(5, 2).data().type(25).raw(9).type(3 + 12).colours(0).more(0);
        Codes.ones(d, 3, 16, 0);
        fault("a TOTAL of 16 of 15, by six bits", s, d.u(11, 6, 60), WRONG);
        d = s.head(5, 2).data().type(25).raw(9).type(3 + 12).colours(0).more(0);
        Codes.ones(d, 3, 16, 0);
        Codes.ones(d, 3, 15, 15);
        // the pieces behind: left 15 or 16 from the RAW one, above them 0 or what there is
        int[] total = new int[16];
        total[0] = 15;
        for (int b = 1; b < 16; b++) {
            int x = b / 4 % 2 * 2 + b % 2;
            int y = b / 8 * 2 + b / 2 % 2;
            int left = x == 0 ? 16 : total[number(x - 1, y)];
            int n = y == 0 ? left : left + total[number(x, y - 1)] + 1 >> 1;
            Codes.ones(d, tableOf(n), 15, 0);
        }
        VideoSuite v = whole("a TOTAL of 15 of 15", s, d);
        Check.due(by("P20 place 15"), v.level(1, 0, 15), 1);
        Check.due(by("P20 place 0"), v.level(1, 0, 0), 0);
    }

    private static int number(int x, int y) {
        return y / 2 * 8 + x / 2 * 4 + y % 2 * 2 + x % 2;
    }

    /** TOKEN by six bits: 3 is TOTAL 0; ONES above TOTAL: 4. */
    private static void sixBits() {
        for (int v = 0; v < 12; v++) {
            Streams s = sets(2, 1);
            Data d = s.head(5, 2).data().type(25).raw(9).type(3).colours(0).more(0).u(11, 6, v);
            if (v == 2 || v == 7) {
                fault("six bits: " + v, s, d, WRONG);
                continue;
            }
            int t = v == 3 ? 0 : v / 4 + 1;
            int o = v == 3 ? 0 : v % 4;
            for (int i = 0; i < t; i++) {
                if (i < o) {
                    d.bit(12, 0, 0);
                } else {
                    // s is 1 behind the first of these
                    d.ue0(13, 0).u(14, i > o ? 1 : 0, 0);
                }
            }
            VideoSuite w = whole("six bits: " + v, s, t > 0 ? d.code(15, Codes.zeros(16, t, 0)) : d);
            int n = 0;
            for (int i = 0; i < 16; i++) {
                n += w.level(1, 16, i) != 0 ? 1 : 0;
            }
            Check.due(by("P20 as many LEVELS as TOTAL, " + v), n, t);
            Check.due(by("P20 the first of less than three ONES is 2 at least"), w.level(1, 16, t < 1 ? 0 : t - 1),
                    t < 1 ? 0 : o > 0 ? 1 : 2);
        }
    }

    private static Data one(Streams s) {
        Data d = s.head(5, 2).data().type(3).colours(0).more(0);
        return d.token(Codes.token(0, 1, 0));
    }

    /** One LEVEL, ONES 0, s 0: by each prefix. */
    private static void prefixes() {
        Streams s = sets(1, 1);
        for (int p = 0; p < 16; p++) {
            int bits = p == 14 ? 4 : p == 15 ? 12 : 0;
            int[] rests = {0, 1, (1 << bits) - 2, (1 << bits) - 1};
            for (int rest : rests) {
                if (rest < 0 || rest >= 1 << bits) {
                    continue;
                }
                int v = (p < 15 ? p : 30) + rest + 2;
                int due = v % 2 == 0 ? (v + 2) / 2 : -(v + 1) / 2;
                Data d = one(s).ue0(13, p).u(14, bits, rest).code(15, Codes.zeros(16, 1, 0));
                VideoSuite w = whole("prefix " + p + " and " + rest, s, d);
                Check.due(by("P20 prefix " + p + " and " + rest), w.level(0, 16, 0), due);
                if (coding == 0) {
                    int n = w.count(8) - (bits > 0 ? 3 : 2);
                    Check.due("P25 prefix " + p, w.element(n, 2), p);
                    Check.due("P25 its bits", w.element(n, 1), p + 1);
                    Check.due("P25 its rest", w.element(n + 1, 2), bits > 0 ? rest : 0);
                }
            }
        }
        Data d = one(s);
        for (int i = 0; i < 16; i++) {
            d.bit(13, i, 0);
        }
        fault("16 zeros", s, d, OUT);
        if (coding == 0) {
            VideoSuite w = decoded(s, d.cut());
            Check.due("P25 16 zeros are no ELEMENT: TOKEN is the last", w.element(w.count(8) - 1, 2), 4);
            byte[] cut = one(s).code(13, zero(15)).cut();
            VideoSuite v = decoded(s, cut);
            int place = v.fault(0, 1);
            Check.due("BITS end in a prefix, or 16 zeros: where it began", v.element(v.count(8) - 1, 0)
                    + v.element(v.count(8) - 1, 1), place);
        }
    }

    /** s grows with sizes above 3 << (s - 1), to 6 at most. */
    private static void sizes() {
        Streams s = sets(1, 1);
        int[][] rows = {{1, 1, 2}, {1, 1, 3}, {3, 3, 4}, {4, 4, -3}, {6, 7, 4}, {6, 6, 4}, {2000, 96, 97}, {97, 96, -97, 96},
            {2000, 2000, 2000, 2000, 2000, 2528}, {2064, 4, 7, 13, 25, 49, 97, 193, 192, 2528}, {-2000, -2047, 1, 1, 1},
            {48, 49, 24, 25, 12, 13, 6, 7, 3},
            {1, 2, 4, 8, 16, 32, 64, 128, 256, 512, 1024, 2000}, {1, 3, 4, 6, 7, 12, 13, 24, 25, 48, 49, 96, 97, 192, 193},
            {96, 97, 48, 49, 24, 25, 12, 13, 6, 7, 3, 4, 3, 4, 3, 4}, {15, 16, 14, 15, -16, -17}, {30, 31, 61, -62}};
        for (int[] row : rows) {
            for (int sign = -1; sign < 2; sign += 2) {
                // the highest place is read first
                int[] level = new int[row.length];
                for (int i = 0; i < row.length; i++) {
                    level[row.length - 1 - i] = sign * row[i];
                }
                Data d = s.head(5, 2).data().type(3).colours(0).more(0);
                VideoSuite v = whole("sizes", s, Codes.levels(d, 0, 16, level));
                for (int i = 0; i < 16; i++) {
                    Check.due(by("P20 size " + i + " of " + java.util.Arrays.toString(level)), v.level(0, 16, i),
                            i < level.length ? level[i] : 0);
                }
            }
        }
    }

    /** s begins with 1, if TOTAL is above 10 and ONES below 3. */
    private static void manySizes() {
        for (int t = 10; t <= 11; t++) {
            for (int o = 2; o <= 3; o++) {
                Streams s = sets(1, 1);
                Data d = s.head(5, 2).data().type(3).colours(0).more(0).token(Codes.token(0, t, o));
                for (int i = 0; i < o; i++) {
                    d.bit(12, 0, 0);
                }
                boolean isOne = t > 10 && o < 3;
                d.ue0(13, 1).u(14, isOne ? 1 : 0, 0);
                for (int i = o + 1; i < t; i++) {
                    d.ue0(13, 0).u(14, 1, 0);
                }
                d.code(15, Codes.zeros(16, t, 0));
                // v: 1 (s 0) or 2 (s 1), 2 more with ONES below 3
                int v = (isOne ? 2 : 1) + (o < 3 ? 2 : 0);
                VideoSuite w = whole("TOTAL " + t + ", ONES " + o, s, d);
                Check.due(by("P20 TOTAL " + t + ", ONES " + o), w.level(0, 16, t - 1 - o), v % 2 == 0 ? (v + 2) / 2 : -(v + 1) / 2);
            }
        }
    }

    private static void row(String what, Streams s, Data d, int[] level, int row, int shift) {
        VideoSuite v = whole(what, s, d);
        for (int i = 0; i < 16; i++) {
            int k = i - shift;
            Check.due(by("P20 " + what + ", place " + i), v.level(0, row, i), k >= 0 && k < level.length ? level[k] : 0);
        }
    }

    /** All ZEROS of each TOTAL, and rows with zeros here and there. */
    private static void places() {
        Streams s = sets(1, 1);
        for (int t = 1; t <= 16; t++) {
            for (int z = 0; z + t <= 16; z++) {
                int[] level = new int[z + t];
                java.util.Arrays.fill(level, z, z + t, 1);
                Data d = s.head(5, 2).data().type(3).colours(0).more(0);
                row(z + " zeros, then " + t, s, Codes.levels(d, 0, 16, level), level, 16, 0);
                // all zeros before the highest one
                int[] other = new int[z + t];
                java.util.Arrays.fill(other, 0, t - 1, 1);
                other[z + t - 1] = 1;
                d = s.head(5, 2).data().type(3).colours(0).more(0);
                row(t + " less one, " + z + " zeros, one", s, Codes.levels(d, 0, 16, other), other, 16, 0);
            }
        }
        int[][] rows = {{0, 1, 0, 0, 1, 0, 0, 0, 1, 0, 0, 0, 0, 1, 0, 1}, {1, 0, 1, 0, 1, 0, 1, 0, 1, 0, 1, 0, 1, 0, 1, 0},
            {0, 0, 0, 5, 0, 0, 0, 0, 0, 0, 0, 0, 0, 0, 0, -7}, {9, 0, 0, 0, 0, 0, 0, 8, 0, 0, 0, 0, 0, 0, 7, 0}};
        for (int[] r : rows) {
            Data d = s.head(5, 2).data().type(3).colours(0).more(0);
            row("zeros here and there", s, Codes.levels(d, 0, 16, r), r, 16, 0);
        }
    }

    private static void places15() {
        Streams s = sets(1, 1);
        for (int t = 1; t <= 15; t++) {
            for (int z = 0; z + t <= 15; z += t < 3 ? 1 : 2) {
                int[] level = new int[z + t];
                java.util.Arrays.fill(level, z, z + t, -1);
                Data d = s.head(5, 2).data().type(3 + 12).colours(0).more(0);
                Codes.ones(d, 0, 16, 0);
                Codes.levels(d, 0, 15, level);
                rest(d, t);
                row(z + " zeros, then " + t + " of 15", s, d, level, 0, 1);
            }
        }
    }

    /** Pieces 1 .. 15 without LEVELS behind a piece 0 of a TOTAL. */
    private static void rest(Data d, int t) {
        for (int b = 1; b < 16; b++) {
            int n = b == 1 || b == 2 ? t : 0;
            Codes.ones(d, tableOf(n), 15, 0);
        }
    }

    private static void places4() {
        Streams s = sets(1, 1);
        for (int mask = 0; mask < 16; mask++) {
            int[] level = new int[4];
            int most = 0;
            for (int i = 0; i < 4; i++) {
                level[i] = (mask >> i & 1) * (i % 2 == 0 ? 3 : -1);
                most = level[i] != 0 ? i + 1 : most;
            }
            Data d = s.head(5, 2).data().type(3 + 4).colours(0).more(0);
            Codes.ones(d, 0, 16, 0);
            Codes.levels(d, 4, 4, java.util.Arrays.copyOf(level, most));
            Codes.ones(d, 4, 4, 0);
            row("EVEN 4, row by row, " + mask, s, d, level, 17, 0);
        }
    }

    /** ZEROS and TOTAL above n: 4. */
    private static void zerosAboveN() {
        Streams s = sets(1, 1);
        for (int t = 1; t < 15; t++) {
            Data d = s.head(5, 2).data().type(3 + 12).colours(0).more(0);
            Codes.ones(d, 0, 16, 0);
            d.token(Codes.token(0, t, Math.min(3, t)));
            for (int i = 0; i < t; i++) {
                if (i < 3) {
                    d.bit(12, 0, 0);
                } else {
                    d.ue0(13, 0).u(14, i > 3 ? 1 : 0, 0);
                }
            }
            fault(t + " of 15, and " + (16 - t) + " zeros", s, d.code(15, Codes.zeros(15, t, 16 - t)), WRONG);
        }
    }

    /** RUN above the zeros left: 4. */
    private static void runsAboveLeft() {
        Streams s = sets(1, 1);
        for (int run = 6; run <= 14; run++) {
            for (int z = 7; z < 14; z++) {
                Data d = s.head(5, 2).data().type(3).colours(0).more(0).token(Codes.token(0, 2, 2)).bit(12, 0, 0)
                        .bit(12, 0, 0).code(15, Codes.zeros(16, 2, z)).code(16, Codes.run(z, run));
                if (run > z) {
                    fault("a RUN of " + run + " of " + z, s, d, WRONG);
                } else {
                    VideoSuite v = whole("a RUN of " + run + " of " + z, s, d);
                    Check.due(by("P20 the highest place"), v.level(0, 16, z + 1), 1);
                    Check.due(by("P20 the other one"), v.level(0, 16, z - run), 1);
                }
            }
        }
    }

    /** Rows of bits that no code begins. */
    private static void noCode() {
        Streams s = sets(1, 1);
        Streams two = sets(2, 1);
        fault("TOKEN of table 0", s, s.head(5, 2).data().type(3).colours(0).more(0).code(11, zero(15)), WRONG);
        fault("TOKEN of table 1", two, behind(two, 1).code(11, zero(13)), WRONG);
        fault("TOKEN of table 2", two, behind(two, 2).code(11, zero(10)), WRONG);
        Data d = s.head(5, 2).data().type(3).colours(0).more(0).token(Codes.token(0, 1, 1)).bit(12, 0, 0);
        fault("ZEROS of 1", s, d.code(15, zero(9)), WRONG);
        d = s.head(5, 2).data().type(3).colours(0).more(0).token(Codes.token(0, 2, 2)).bit(12, 0, 0).bit(12, 0, 1)
                .code(15, Codes.zeros(16, 2, 9));
        fault("RUN of 7 and more", s, d.code(16, zero(11)), WRONG);
    }
}
