import java.util.Random;

/** Section 5: samples of BLOCKS I by each mode, and what is left of them. */
public final class IntraTest {
    /** The samples around, RAW: a picture of 3 by 2 BLOCKS, of which the fifth is looked at. */
    private static int[][] planes;
    private static final int WIDE = 48;

    public static void main(String[] args) {
        for (int seed = 0; seed < 8; seed++) {
            planes = noise(seed);
            fours(false);
            fours(true);
            foursBehind();
            sixteens();
            colours();
        }
        extremes();
        means();
        ownSides();
        ownSidesOfLarge();
        rests();
        evens();
        oneEven();
        chromaSteps();
        Check.end();
    }

    private static int[][] noise(int seed) {
        Random chance = new Random(seed);
        int[][] all = {new int[48 * 32], new int[24 * 16], new int[24 * 16]};
        for (int[] p : all) {
            for (int i = 0; i < p.length; i++) {
                p[i] = chance.nextInt(5) == 0 ? 255 * chance.nextInt(2) : chance.nextInt(256);
            }
        }
        return all;
    }

    private static Streams sets(int wide, int high) {
        return new Streams().size(wide, high).sets();
    }

    private static Data raw(Data d, int mb) {
        int[] s = new int[384];
        for (int i = 0; i < 384; i++) {
            int p = i < 256 ? 0 : i < 320 ? 1 : 2;
            int n = p == 0 ? 16 : 8;
            int k = i < 256 ? i : (i - 256) % 64;
            s[i] = planes[p][(mb / 3 * n + k / n) * 3 * n + mb % 3 * n + k % n];
        }
        return d.type(25).raw(s);
    }

    private static Streams.Head head(Streams s) {
        return s.head(5, 2).off(1, 0, 0);
    }

    private static VideoSuite shown(Streams s, Data d) {
        VideoSuite v = s.add(d.unit()).object();
        v.decode(400);
        Check.due("FAULTS", v.count(4), 0);
        v.flush();
        return v;
    }

    /** Luma at a place told from the fifth BLOCK's left above. */
    private static int luma(int x, int y) {
        return planes[0][(16 + y) * WIDE + 16 + x];
    }

    private static int m2(int a, int b) {
        return a + b + 1 >> 1;
    }

    private static int m3(int a, int b, int c) {
        return a + 2 * b + c + 2 >> 2;
    }

    /** What mode tells of a piece at x, y, by its E from -4 (L3) to 8 (T7), told from 0 on. */
    private static int four(int mode, int[] e, int x, int y) {
        int z = 4;
        switch (mode) {
            case 0:
                return e[z + 1 + x];
            case 1:
                return e[z - 1 - y];
            case 3:
                return x == 3 && y == 3 ? m3(e[z + 7], e[z + 8], e[z + 8])
                        : m3(e[z + 1 + x + y], e[z + 2 + x + y], e[z + 3 + x + y]);
            case 4:
                return m3(e[z + x - y - 1], e[z + x - y], e[z + x - y + 1]);
            case 5:
                return slanted(e, x, y, 1);
            case 6:
                return slanted(e, y, x, -1);
            case 7:
                int k = z + 1 + x + (y >> 1);
                return y % 2 == 0 ? m2(e[k], e[k + 1]) : m3(e[k], e[k + 1], e[k + 2]);
            default:
                int v = x + 2 * y;
                int l = z - 1 - y - (x >> 1);
                return v > 5 ? e[0] : v == 5 ? m3(e[1], e[0], e[0]) : v % 2 == 0 ? m2(e[l], e[l - 1])
                        : m3(e[l], e[l - 1], e[l - 2]);
        }
    }

    private static int slanted(int[] e, int x, int y, int way) {
        int k = x - (y >> 1);
        int v = 2 * x - y;
        if (v >= 0 && v % 2 == 0) {
            return m2(e[4 + way * k], e[4 + way * (k + 1)]);
        }
        int c = v > 0 ? k : v == -1 ? 0 : 1 - y;
        return m3(e[4 + way * (c - 1)], e[4 + way * c], e[4 + way * (c + 1)]);
    }

    private static int[] row(int[] shown, int x, int y, boolean isBehind) {
        int[] e = new int[13];
        for (int i = 0; i < 4; i++) {
            e[3 - i] = shown[(y + i + 1) * 21 + x];
        }
        for (int i = 0; i < 9; i++) {
            e[4 + i] = shown[y * 21 + x + (isBehind || i < 5 ? i : 4)];
        }
        return e;
    }

    /** All pieces of the fifth BLOCK by the same mode, without LEVELS. */
    private static void fours(boolean isLast) {
        int[] modes = {0, 1, 2, 3, 4, 5, 6, 7, 8};
        for (int mode : modes) {
            Streams s = sets(3, 2);
            Data d = head(s).data();
            int last = isLast ? 5 : 4;
            for (int mb = 0; mb < last; mb++) {
                raw(d, mb);
            }
            d.type(0);
            for (int b = 0; b < 16; b++) {
                boolean atSide = b % 2 == 0 && b / 4 % 2 == 0 || b < 2 || b == 4 || b == 5;
                int guess = atSide ? Math.min(2, b == 0 ? 2 : mode) : mode;
                if (mode == guess) {
                    d.given();
                } else {
                    d.rest(mode < guess ? mode : mode - 1);
                }
            }
            d.colours(0).pattern(3);
            for (int mb = last + 1; mb < 6; mb++) {
                raw(d, mb);
            }
            VideoSuite v = shown(s, d);
            int left = last % 3 * 16;
            // a window of the BLOCK with a row above it (and five more) and a column at its left
            int[] w = new int[17 * 21];
            for (int i = 0; i < w.length; i++) {
                int x = left - 1 + i % 21;
                int y = 15 + i / 21;
                w[i] = x < WIDE && (i < 21 || i % 21 == 0) ? planes[0][y * WIDE + x] : 0;
            }
            for (int b = 0; b < 16; b++) {
                int px = b / 4 % 2 * 8 + b % 2 * 4;
                int py = b / 8 * 8 + b / 2 % 2 * 4;
                boolean isBehind = b != 3 && b != 7 && b != 11 && b != 13 && b != 15 && !(isLast && b == 5);
                int[] e = row(w, px, py, isBehind);
                int mean = e[0] + e[1] + e[2] + e[3] + e[5] + e[6] + e[7] + e[8] + 4 >> 3;
                for (int i = 0; i < 16; i++) {
                    int due = mode == 2 ? mean : four(mode, e, i % 4, i / 4);
                    w[(py + 1 + i / 4) * 21 + px + 1 + i % 4] = due;
                    if (i % 5 == 0 || b == 5 || b == 3) {
                        Check.due("P14 mode " + mode + ", piece " + b + ", " + i, v.sample(0, 0, left + px + i % 4,
                                16 + py + i / 4), due);
                    }
                }
            }
        }
    }

    /** Mode 2 with one side, or none. */
    private static void foursBehind() {
        int[] counts = {0, 1, 3};
        for (int n : counts) {
            Streams s = sets(3, 2);
            Data d = head(s).data();
            for (int mb = 0; mb < n; mb++) {
                raw(d, mb);
            }
            d.type(0);
            for (int b = 0; b < 16; b++) {
                d.given();
            }
            VideoSuite v = shown(s, d.colours(0).pattern(3));
            int sum = 0;
            for (int i = 0; i < 4; i++) {
                sum += n == 0 ? 128 : n == 1 ? planes[0][i * WIDE + 15] : planes[0][15 * WIDE + i];
            }
            int due = sum + 2 >> 2;
            Check.due("P14 mode 2 behind " + n, v.sample(0, 0, n == 1 ? 16 : 0, n == 3 ? 16 : 0), due);
        }
    }

    private static int clip(int x) {
        return x < 0 ? 0 : x > 255 ? 255 : x;
    }

    /** The plane through n samples above and at the left, by their sides from -1 on. */
    private static int plane(int[] t, int[] l, int n, int factor, int x, int y) {
        int h = 0;
        int v = 0;
        for (int k = 1; k <= n / 2; k++) {
            h += k * (t[n / 2 + k] - t[n / 2 - k]);
            v += k * (l[n / 2 + k] - l[n / 2 - k]);
        }
        int b = factor * h + 32 >> 6;
        int c = factor * v + 32 >> 6;
        return clip(16 * (l[n] + t[n]) + b * (x - n / 2 + 1) + c * (y - n / 2 + 1) + 16 >> 5);
    }

    private static int[] side(int p, int n, int left, int top, boolean isAbove) {
        int[] s = new int[n + 1];
        for (int i = 0; i <= n; i++) {
            int x = isAbove ? left - 1 + i : left - 1;
            int y = isAbove ? top - 1 : top - 1 + i;
            s[i] = x < 0 || y < 0 ? 0 : planes[p][y * 3 * n + x];
        }
        return s;
    }

    private static int sum(int[] s, int from, int n) {
        int sum = 0;
        for (int i = from; i < from + n; i++) {
            sum += s[i];
        }
        return sum;
    }

    /** The BLOCKS 0, 1, 3 and 4 have no side, the left, the upper, both. */
    private static void sixteens() {
        int[] where = {0, 1, 3, 4};
        for (int mb : where) {
            int left = mb % 3 * 16;
            int top = mb / 3 * 16;
            int[] t = side(0, 16, left, top, true);
            int[] l = side(0, 16, left, top, false);
            for (int mode = 0; mode < 4; mode++) {
                if (mode != 2 && mode != 1 && top == 0 || mode != 2 && mode != 0 && left == 0) {
                    continue;
                }
                Streams s = sets(3, 2);
                Data d = head(s).data();
                for (int k = 0; k < mb; k++) {
                    raw(d, k);
                }
                VideoSuite v = shown(s, d.type(1 + mode).colours(0).more(0).token(Codes.token(mb == 0 ? 0 : 3, 0, 0)));
                int both = left > 0 && top > 0 ? sum(t, 1, 16) + sum(l, 1, 16) + 16 >> 5 : left > 0 ? sum(l, 1, 16) + 8 >> 4
                        : top > 0 ? sum(t, 1, 16) + 8 >> 4 : 128;
                for (int i = 0; i < 256; i += 11) {
                    int x = i % 16;
                    int y = i / 16;
                    int due = mode == 0 ? t[1 + x] : mode == 1 ? l[1 + y] : mode == 2 ? both : plane(t, l, 16, 5, x, y);
                    Check.due("P14 SIXTEEN of mode " + mode + " in " + mb + " at " + i, v.sample(0, 0, left + x, top + y), due);
                }
            }
        }
    }

    private static int mean(int[] t, int[] l, boolean above, boolean left, int x, int y) {
        int top = sum(t, 1 + x / 4 * 4, 4);
        int side = sum(l, 1 + y / 4 * 4, 4);
        if (!above && !left) {
            return 128;
        }
        if (x / 4 == y / 4) {
            return above && left ? top + side + 4 >> 3 : (above ? top : side) + 2 >> 2;
        }
        boolean byTop = x > 3 ? above : !left;
        return (byTop ? top : side) + 2 >> 2;
    }

    private static void colours() {
        int[] where = {0, 1, 3, 4};
        for (int mb : where) {
            int left = mb % 3 * 8;
            int top = mb / 3 * 8;
            for (int mode = 0; mode < 4; mode++) {
                if (mode > 1 && top == 0 || mode % 2 == 1 && left == 0) {
                    continue;
                }
                Streams s = sets(3, 2);
                Data d = head(s).data();
                for (int k = 0; k < mb; k++) {
                    raw(d, k);
                }
                VideoSuite v = shown(s, d.type(3).colours(mode).more(0).token(Codes.token(mb == 0 ? 0 : 3, 0, 0)));
                for (int p = 1; p < 3; p++) {
                    int[] t = side(p, 8, left, top, true);
                    int[] l = side(p, 8, left, top, false);
                    for (int i = 0; i < 64; i += 3) {
                        int x = i % 8;
                        int y = i / 8;
                        int due = mode == 0 ? mean(t, l, top > 0, left > 0, x, y) : mode == 1 ? l[1 + y]
                                : mode == 2 ? t[1 + x] : plane(t, l, 8, 34, x, y);
                        Check.due("P14 colours' mode " + mode + " in " + mb + " at " + i, v.sample(0, p, left + x, top + y),
                                due);
                    }
                }
            }
        }
    }

    /** Mode 2 of SIXTEEN, rounded: sums of all rests. */
    private static void means() {
        for (int k = 0; k < 32; k++) {
            for (int mb = 1; mb < 4; mb++) {
                Streams s = sets(2, 2);
                Data d = head(s).data();
                for (int i = 0; i < mb; i++) {
                    int[] raw = new int[384];
                    java.util.Arrays.fill(raw, 100);
                    // the middle of the right column and of the last row
                    raw[8 * 16 + 15] = mb == 1 || i == 2 ? 100 + k : 100;
                    raw[15 * 16 + 8] = mb == 2 ? 100 + k : i == 1 ? 100 + 2 * k : 100;
                    d.type(25).raw(raw);
                }
                VideoSuite v = shown(s, d.type(3).colours(0).more(0).token(Codes.token(3, 0, 0)));
                int due = mb < 3 ? 1600 + k + 8 >> 4 : 3200 + 3 * k + 16 >> 5;
                Check.due("P14 the mean behind " + mb + ", " + k, v.sample(0, 0, mb % 2 * 16 + 3, mb / 2 * 16 + 3), due);
            }
        }
    }

    /** Likewise SIXTEEN's modes, and colours' ones (from 4 on). */
    private static void ownSidesOfLarge() {
        int[] where = {3, 1, 0, 2};
        for (int i = 0; i < 64; i++) {
            int own = i / 32;
            int gone = i / 8 % 4;
            int mode = i % 8;
            Streams s = new Streams().size(3, 2);
            s.own = own;
            s.sets();
            Data d = s.head(5, 2).data();
            for (int mb = 0; mb < 6; mb++) {
                d.type(3).colours(0).more(0).token("1");
            }
            s.add(d.unit());
            d = s.head(1, 0).at(1, 2).off(1, 0, 0).data();
            for (int mb = 0; mb < 4; mb++) {
                if (mb == where[gone]) {
                    d.skipped(1);
                } else {
                    d.type(8).colours(0).more(0).token("1");
                }
            }
            boolean left = own == 0 || gone != 0;
            boolean above = own == 0 || gone != 1;
            boolean all = above && left && (own == 0 || gone != 2);
            boolean[] may = {above, left, true, all, true, left, above, all};
            d.type(mode < 4 ? 6 + mode : 8);
            if (mode > 3 || may[mode]) {
                d.colours(mode < 4 ? 0 : mode - 4);
            }
            if (may[mode]) {
                d.more(0).token("1");
            }
            VideoSuite v = s.add(d.unit()).object();
            v.decode(400);
            String what = "own " + own + ", BLOCK " + where[gone] + " by lists, large mode " + mode;
            Check.due(what + ": FAULTS", v.count(4), may[mode] ? 0 : 1);
            Check.due(what + ": its kind", may[mode] ? 4 : v.fault(0, 2), 4);
            Check.due(what + ": the BLOCK", v.block(4, 0), may[mode] ? 1 : -1);
        }
    }

    /** own 1: samples of BLOCKS by lists are not THERE, each side by itself; own 0: they are. */
    private static void ownSides() {
        for (int own = 0; own < 2; own++) {
            for (int gone = 0; gone < 4; gone++) {
                Streams s = new Streams().size(3, 2);
                s.own = own;
                s.sets();
                Data d = s.head(5, 2).data();
                for (int mb = 0; mb < 6; mb++) {
                    d.type(25).raw(20 + 30 * mb);
                }
                s.add(d.unit());
                // the fifth BLOCK's left, upper, corner, or the one behind it is SKIPPED, the others are RAW
                int[] where = {3, 1, 0, 2};
                for (int mode = 0; mode < 9; mode++) {
                    d = s.head(1, 0).at(1, 2).off(1, 0, 0).data();
                    for (int mb = 0; mb < 4; mb++) {
                        if (mb == where[gone]) {
                            d.skipped(1);
                        } else {
                            d.type(30).raw(25 + 30 * mb);
                        }
                    }
                    d.type(5);
                    boolean isTwo = mode == 2;
                    if (isTwo) {
                        d.given();
                    } else {
                        d.rest(mode < 2 ? mode : mode - 1);
                    }
                    boolean above = own == 0 || gone != 1;
                    boolean left = own == 0 || gone != 0;
                    boolean all = above && left && (own == 0 || gone != 2);
                    boolean may = isTwo || (mode == 1 || mode == 8 ? left : mode == 0 || mode == 3 || mode == 7 ? above : all);
                    Streams t = new Streams();
                    t.bytes.writeBytes(s.bytes.toByteArray());
                    for (int b = 1; may && b < 16; b++) {
                        d.given();
                    }
                    if (may) {
                        d.colours(0).pattern(3);
                    }
                    VideoSuite v = t.add(d.unit()).object();
                    v.decode(400);
                    String what = "own " + own + ", BLOCK " + where[gone] + " by lists, mode " + mode;
                    Check.due(what + ": FAULTS", v.count(4), may ? 0 : 1);
                    Check.due(what + ": its kind", may ? 4 : v.fault(0, 2), 4);
                    Check.due(what + ": the BLOCK", v.block(4, 0), may ? 0 : -1);
                    if (mode == 3 && may) {
                        v.flush();
                        Check.due(what + ": by what is above", v.sample(1, 0, 16, 16), gone == 1 ? 50 : 55);
                    }
                }
            }
        }
        behindOwn();
    }

    /** T4 .. T7 of piece 5, whose BLOCK is by lists: with own 1 they are T3. */
    private static void behindOwn() {
        for (int own = 0; own < 2; own++) {
            Streams s = new Streams().size(2, 2);
            s.own = own;
            s.sets().add(s.head(5, 2).raw(200, 200, 200, 200, 200, 200, 200, 200, 200, 200, 200, 200));
            Data d = s.head(1, 0).at(1, 2).off(1, 0, 0).data().type(30).raw(40).skipped(1).type(5);
            for (int b = 0; b < 16; b++) {
                if (b == 5) {
                    d.rest(2);
                } else {
                    d.given();
                }
            }
            VideoSuite v = s.add(d.colours(0).pattern(3).unit()).object();
            v.decode(400);
            Check.due("FAULTS", v.count(4), 0);
            Check.due("P18 mode of piece 5", v.block(2, 8 + 5), 3);
            v.flush();
            Check.due("P14 T4 .. T7, own " + own, v.sample(1, 0, 15, 19), own == 1 ? 40 : 200);
            Check.due("P14 T0 .. T3, own " + own, v.sample(1, 0, 12, 16), 40);
        }
    }

    /** A plane beyond 0 and 255 at its corners. */
    /** What is predicted is 0 .. 255 before what is left is added. */
    private static void planeAndRest(int even) {
        int[] t = side(0, 16, 16, 16, true);
        int[] l = side(0, 16, 16, 16, false);
        Streams s = sets(3, 2);
        Data d = head(s).data();
        for (int k = 0; k < 4; k++) {
            raw(d, k);
        }
        VideoSuite v = shown(s, Codes.levels(d.type(4).colours(0).more(0), 3, 16, even));
        // STEP 26: NORM 13, 4 times doubled
        int rest = ((even * 13 << 4) + 2 >> 2) + 32 >> 6;
        for (int i = 0; i < 256; i += 5) {
            int due = clip(plane(t, l, 16, 5, i % 16, i / 16) + rest);
            Check.due("P14 a plane, and " + rest + " more, at " + i, v.sample(0, 0, 16 + i % 16, 16 + i / 16), due);
        }
    }

    private static void extremes() {
        int[][] was = planes;
        planes = new int[][] {new int[48 * 32], new int[24 * 16], new int[24 * 16]};
        for (int i = 0; i < planes[0].length; i++) {
            planes[0][i] = clip((i % WIDE - 24) * 40 + (i / WIDE - 20) * 30);
        }
        for (int i = 0; i < 24 * 16; i++) {
            planes[1][i] = clip((i % 24 - 12) * 60 + (i / 24 - 8) * 70);
            planes[2][i] = 255 - planes[1][i];
        }
        sixteens();
        colours();
        // the plane goes on above 255, or below 0
        for (int down = 0; down < 3; down++) {
            for (int p = 0; p < 3; p++) {
                int n = p == 0 ? 16 : 8;
                for (int i = 0; i < planes[p].length; i++) {
                    int x = i % (3 * n);
                    int y = i / (3 * n);
                    int v = clip(Math.max(x - n, y - n) * 17 * 16 / n);
                    // the third one goes up to 256 and a little more
                    planes[p][i] = down == 2 ? clip(240 + Math.max(x - n, y - n)) : down == 1 ? 255 - v : v;
                }
            }
            sixteens();
            colours();
            planeAndRest(down == 1 ? 5 : -5);
        }
        planes = was;
    }

    private static final int[] SCAN_X = {0, 1, 0, 0, 1, 2, 3, 2, 1, 0, 1, 2, 3, 3, 2, 3};
    private static final int[] SCAN_Y = {0, 0, 1, 2, 1, 0, 0, 1, 2, 3, 3, 2, 1, 2, 3, 3};
    private static final int[] NORM = Codes.numbers(Codes.between("of row q % 6 of", ": the first for x, y both even"));

    private static int norm(int q, int x, int y) {
        return NORM[3 * (q % 6) + (x % 2 == 0 && y % 2 == 0 ? 0 : x % 2 == 1 && y % 2 == 1 ? 2 : 1)];
    }

    /** What is left of a piece by its 16 numbers, row by row. */
    private static int[] left(int[] d) {
        int[] w = d.clone();
        for (int pass = 0; pass < 2; pass++) {
            int step = pass == 0 ? 1 : 4;
            for (int i = 0; i < 4; i++) {
                int k = pass == 0 ? 4 * i : i;
                int e = w[k] + w[k + 2 * step];
                int f = w[k] - w[k + 2 * step];
                int g = (w[k + step] >> 1) - w[k + 3 * step];
                int h = w[k + step] + (w[k + 3 * step] >> 1);
                w[k] = e + h;
                w[k + step] = f + g;
                w[k + 2 * step] = f - g;
                w[k + 3 * step] = e - h;
            }
        }
        for (int i = 0; i < 16; i++) {
            w[i] = w[i] + 32 >> 6;
        }
        return w;
    }

    private static int[] scaled(int[] level, int q) {
        int[] d = new int[16];
        for (int i = 0; i < level.length; i++) {
            d[4 * SCAN_Y[i] + SCAN_X[i]] = level[i] * norm(q, SCAN_X[i], SCAN_Y[i]) << q / 6;
        }
        return d;
    }

    /** FOUR without NEIGHBOURS: 128 and what is left of piece 0. */
    private static void rests() {
        int[][] rows = {{1}, {-1}, {3, -2}, {0, 0, 5, -7, 1, 0, 0, -1}, {40, -30, 20, -10, 5, 4, 3, 2, 1, -1, -2, -3, -4, -5, 6, 7},
            {2000}, {-2000, 1500, -1000}, {0, 0, 0, 0, 0, 0, 0, 0, 0, 0, 0, 0, 0, 0, 0, 9}};
        for (int q = 0; q < 52; q += q < 6 || q > 44 ? 1 : 5) {
            for (int[] level : rows) {
                Streams s = sets(1, 1);
                Streams.Head h = head(s);
                h.more = q - 26;
                Data d = h.data().type(0);
                for (int b = 0; b < 16; b++) {
                    d.given();
                }
                // code 29 of FOUR: the pattern 1
                Codes.levels(d.colours(0).pattern(29).more(0), 0, 16, level);
                int t = 0;
                for (int x : level) {
                    t += x != 0 ? 1 : 0;
                }
                int table = t < 2 ? 0 : t < 4 ? 1 : t < 8 ? 2 : 3;
                d.token(Codes.token(table, 0, 0)).token(Codes.token(table, 0, 0)).token(Codes.token(0, 0, 0));
                VideoSuite v = shown(s, d);
                int[] w = left(scaled(level, q));
                for (int i = 0; i < 16; i++) {
                    Check.due("P14 what is left, STEP " + q + ", " + i, v.sample(0, 0, i % 4, i / 4), clip(128 + w[i]));
                }
            }
        }
    }

    private static int[] turned(int[] c) {
        int[][] m = {{1, 1, 1, 1}, {1, 1, -1, -1}, {1, -1, -1, 1}, {1, -1, 1, -1}};
        int[] f = new int[16];
        for (int i = 0; i < 16; i++) {
            for (int k = 0; k < 16; k++) {
                f[i] += m[i / 4][k / 4] * c[k] * m[k % 4][i % 4];
            }
        }
        return f;
    }

    /** EVEN 16 and EVEN 4 alone. */
    private static void evens() {
        int[] even = {7, -3, 2, 0, 1, -1, 4, 0, 0, 0, -6, 0, 0, 1, 0, 2};
        int[] four = {5, -2, 0, 3};
        for (int q = 0; q < 52; q += 3) {
            Streams s = sets(1, 1);
            Streams.Head h = head(s);
            h.more = q - 26;
            Data d = h.data().type(3 + 4).colours(0).more(0);
            Codes.levels(d, 0, 16, even);
            Codes.levels(d, 4, 4, four);
            VideoSuite v = shown(s, d.token(Codes.token(4, 0, 0)));
            int[] c = new int[16];
            for (int i = 0; i < 16; i++) {
                c[4 * SCAN_Y[i] + SCAN_X[i]] = even[i];
            }
            int[] f = turned(c);
            for (int i = 0; i < 16; i++) {
                int[] only = new int[16];
                only[0] = (f[i] * norm(q, 0, 0) << q / 6) + 2 >> 2;
                Check.due("P14 EVEN 16, STEP " + q + ", " + i, v.sample(0, 0, i % 4 * 4 + 1, i / 4 * 4 + 2),
                        clip(128 + left(only)[0]));
            }
            int[][] signs = {{1, 1, 1, 1}, {1, -1, 1, -1}, {1, 1, -1, -1}, {1, -1, -1, 1}};
            for (int i = 0; i < 4; i++) {
                int sum = 0;
                for (int k = 0; k < 4; k++) {
                    sum += signs[i][k] * four[k];
                }
                int[] only = new int[16];
                only[0] = (sum * norm(chromaStep(q, 0), 0, 0) << chromaStep(q, 0) / 6) >> 1;
                Check.due("P14 EVEN 4, STEP " + q + ", " + i, v.sample(0, 1, i % 2 * 4 + 3, i / 2 * 4 + 1),
                        clip(128 + left(only)[0]));
                Check.due("P14 EVEN 4 of the other plane", v.sample(0, 2, i % 2 * 4 + 3, i / 2 * 4 + 1), 128);
            }
        }
    }

    /** The first of EVEN 16 alone: each piece has the same, rounded. */
    private static void oneEven() {
        for (int q = 0; q < 8; q++) {
            for (int c = 1; c < 200; c += q % 2 == 1 ? 1 : 9) {
                Streams s = sets(1, 1);
                Streams.Head h = head(s);
                h.more = q - 26;
                Data d = h.data().type(3).colours(0).more(0);
                VideoSuite v = shown(s, Codes.levels(d, 0, 16, c));
                int[] only = new int[16];
                only[0] = (c * norm(q, 0, 0) << q / 6) + 2 >> 2;
                Check.due("P14 EVEN 16 of " + c + ", STEP " + q, v.sample(0, 0, 9, 6), clip(128 + left(only)[0]));
            }
        }
    }

    private static final int[] ABOVE_29 = Codes.numbers(Codes.between("below 30 i, else of", "the (i - 30)-th"));

    private static int chromaStep(int q, int apart) {
        int i = Math.max(0, Math.min(51, q + apart));
        return i < 30 ? i : ABOVE_29[i - 30];
    }

    /** APART -12 .. 12: chroma's STEP from 0 to 39. */
    private static void chromaSteps() {
        for (int q = 0; q < 52; q++) {
            int[] aparts = {-12, 0, 12, q % 7 - 3};
            for (int apart : aparts) {
                Streams s = new Streams();
                s.apartStep = apart;
                s.sets();
                Streams.Head h = head(s);
                h.more = q - 26;
                Data d = h.data().type(3 + 8).colours(0).more(0);
                Codes.ones(d, 0, 16, 0).token(Codes.token(4, 0, 0)).token(Codes.token(4, 0, 0));
                int[] level = {-3, 2, 1};
                Codes.levels(d, 0, 15, level);
                d.token(Codes.token(1, 0, 0)).token(Codes.token(1, 0, 0)).token(Codes.token(0, 0, 0));
                for (int i = 0; i < 4; i++) {
                    d.token(Codes.token(0, 0, 0));
                }
                VideoSuite v = shown(s, d);
                int[] w = left(scaled(new int[] {0, -3, 2, 1}, chromaStep(q, apart)));
                for (int i = 0; i < 16; i += 3) {
                    Check.due("P14 chroma, STEP " + q + ", APART " + apart, v.sample(0, 1, i % 4, i / 4), clip(128 + w[i]));
                }
            }
        }
    }
}
