/** What the coder weighs by costs, reckoned anew: predictions of a BLOCK, LEVELS, bits. */
final class Costs {
    static final int[] SCAN_X = {0, 1, 0, 0, 1, 2, 3, 2, 1, 0, 1, 2, 3, 3, 2, 3};
    static final int[] SCAN_Y = {0, 0, 1, 2, 1, 0, 0, 1, 2, 3, 3, 2, 1, 2, 3, 3};
    static final int[] NORM = Codes.numbers(Codes.between("of row q % 6 of", ": the first for x, y both even"));
    static final int[] MEASURE = Codes.numbers(Codes.between("MF(q, x, y) as NORM of", "; f ="));

    /** What stands around a BLOCK: samples (null or -1 without) and modes of pieces (-1: GUESS 2). */
    static final class Near {
        int[] left;
        int[] above;
        int[] behind;
        int corner = -1;
        final int[] leftMode = {-1, -1, -1, -1};
        final int[] aboveMode = {-1, -1, -1, -1};
    }

    private Costs() {
    }

    static int clip(int x) {
        return x < 0 ? 0 : x > 255 ? 255 : x;
    }

    static int of(int[] table, int q, int x, int y) {
        return table[3 * (q % 6) + (x % 2 == 0 && y % 2 == 0 ? 0 : x % 2 == 1 && y % 2 == 1 ? 2 : 1)];
    }

    /** W of a piece, row by row. */
    static int[] turned(int[] x) {
        int[][] f = {{1, 1, 1, 1}, {2, 1, -1, -2}, {1, -1, -1, 1}, {1, -2, 2, -1}};
        int[] w = new int[16];
        for (int i = 0; i < 16; i++) {
            for (int k = 0; k < 16; k++) {
                w[i] += f[i / 4][k / 4] * x[k] * f[i % 4][k % 4];
            }
        }
        return w;
    }

    static int level(int w, int measure, int add, int shift) {
        int size = Math.abs(w) * measure + add >> shift;
        return w < 0 ? -size : size;
    }

    /** LEVELS by SCAN of what is left of a piece. */
    static int[] levels(int[] left, int q, boolean isI) {
        int[] w = turned(left);
        int[] out = new int[16];
        for (int i = 0; i < 16; i++) {
            int add = (1 << 15 + q / 6) / (isI ? 3 : 6);
            out[i] = level(w[4 * SCAN_Y[i] + SCAN_X[i]], of(MEASURE, q, SCAN_X[i], SCAN_Y[i]), add, 15 + q / 6);
        }
        return out;
    }

    /** What is predicted, and what LEVELS add to it. */
    static int[] filled(int[] predicted, int[] level, int q) {
        int[] w = new int[16];
        for (int i = 0; i < 16; i++) {
            w[4 * SCAN_Y[i] + SCAN_X[i]] = level[i] * of(NORM, q, SCAN_X[i], SCAN_Y[i]) << q / 6;
        }
        for (int pass = 0; pass < 2; pass++) {
            int step = pass == 0 ? 1 : 4;
            for (int i = 0; i < 4; i++) {
                int k = pass == 0 ? 4 * i : i;
                int e = w[k] + w[k + 2 * step];
                int f = w[k] - w[k + 2 * step];
                int g = (w[k + step] >> 1) - w[k + 3 * step];
                int h = w[k + step] + (w[k + 3 * step] >> 1);
                w[k] = e + h;
                w[k + step] = f + g;
                w[k + 2 * step] = f - g;
                w[k + 3 * step] = e - h;
            }
        }
        for (int i = 0; i < 16; i++) {
            w[i] = clip(predicted[i] + (w[i] + 32 >> 6));
        }
        return w;
    }

    static int e(int[] row, int k) {
        return row[4 + k];
    }

    static int m3(int a, int b, int c) {
        return a + 2 * b + c + 2 >> 2;
    }

    static int slanted(int[] row, int x, int y, int way) {
        int k = x - (y >> 1);
        int v = 2 * x - y;
        if (v >= 0 && v % 2 == 0) {
            return e(row, way * k) + e(row, way * (k + 1)) + 1 >> 1;
        }
        int c = v > 0 ? k : v == -1 ? 0 : 1 - y;
        return m3(e(row, way * (c - 1)), e(row, way * c), e(row, way * (c + 1)));
    }

    /** A piece by a mode; row is E of it. */
    static int[] four(int mode, int[] row, boolean left, boolean above) {
        int[] out = new int[16];
        int l = e(row, -1) + e(row, -2) + e(row, -3) + e(row, -4);
        int t = e(row, 1) + e(row, 2) + e(row, 3) + e(row, 4);
        for (int i = 0; i < 16; i++) {
            int x = i % 4;
            int y = i / 4;
            int k = 1 + x + (y >> 1);
            int d = -1 - y - (x >> 1);
            int v = x + 2 * y;
            switch (mode) {
                case 0 -> out[i] = e(row, 1 + x);
                case 1 -> out[i] = e(row, -1 - y);
                case 2 -> out[i] = left && above ? l + t + 4 >> 3 : left ? l + 2 >> 2 : above ? t + 2 >> 2 : 128;
                case 3 -> out[i] = i == 15 ? m3(e(row, 7), e(row, 8), e(row, 8))
                        : m3(e(row, 1 + x + y), e(row, 2 + x + y), e(row, 3 + x + y));
                case 4 -> out[i] = m3(e(row, x - y - 1), e(row, x - y), e(row, x - y + 1));
                case 5 -> out[i] = slanted(row, x, y, 1);
                case 6 -> out[i] = slanted(row, y, x, -1);
                case 7 -> out[i] = y % 2 == 0 ? e(row, k) + e(row, k + 1) + 1 >> 1 : m3(e(row, k), e(row, k + 1), e(row, k + 2));
                default -> out[i] = v > 5 ? e(row, -4) : v == 5 ? m3(e(row, -3), e(row, -4), e(row, -4))
                        : v % 2 == 0 ? e(row, d) + e(row, d - 1) + 1 >> 1 : m3(e(row, d), e(row, d - 1), e(row, d - 2));
            }
        }
        return out;
    }

    static final int[] MODES = new int[16];
    static final int[][] LEVELS = new int[16][];

    private static int[] pieceRow(int[] shown, Near near, int px, int py, boolean behind) {
        int[] row = new int[13];
        for (int i = 0; i < 4; i++) {
            row[3 - i] = px > 0 ? shown[(py + i) * 16 + px - 1] : near.left != null ? near.left[py + i] : 0;
            row[5 + i] = py > 0 ? shown[(py - 1) * 16 + px + i] : near.above != null ? near.above[px + i] : 0;
        }
        row[4] = px > 0 && py > 0 ? shown[(py - 1) * 16 + px - 1] : px > 0 ? (near.above != null ? near.above[px - 1] : 0)
                : py > 0 ? (near.left != null ? near.left[py - 1] : 0) : Math.max(0, near.corner);
        for (int i = 4; i < 8; i++) {
            row[5 + i] = !behind ? row[8] : py > 0 ? shown[(py - 1) * 16 + px + i]
                    : px == 12 ? near.behind[i - 4] : near.above[px + i];
        }
        return row;
    }

    /** FOUR's cost; its modes and LEVELS are noted. */
    static int costOfFour(int[] input, int q, Near near) {
        int[] shown = new int[256];
        int cost = 0;
        int bits = 8;
        for (int b = 0; b < 16; b++) {
            int px = b / 4 % 2 * 8 + b % 2 * 4;
            int py = b / 8 * 8 + b / 2 % 2 * 4;
            boolean left = px > 0 || near.left != null;
            boolean above = py > 0 || near.above != null;
            boolean corner = px > 0 ? above : py > 0 ? left : near.corner >= 0;
            boolean behind = b == 5 ? near.behind != null
                    : above && b != 3 && b != 7 && b != 11 && b != 13 && b != 15;
            int[] row = pieceRow(shown, near, px, py, behind);
            String may = (above ? "0" : "") + (left ? "1" : "") + "2" + (above ? "3" : "")
                    + (above && left && corner ? "456" : "") + (above ? "7" : "") + (left ? "8" : "");
            int l = px > 0 ? MODES[number(px - 4, py)] : near.leftMode[py / 4];
            int t = py > 0 ? MODES[number(px, py - 4)] : near.aboveMode[px / 4];
            int guess = l < 0 || t < 0 ? 2 : Math.min(l, t);
            int least = Integer.MAX_VALUE;
            int[] best = null;
            for (int k = 0; k < may.length(); k++) {
                int mode = may.charAt(k) - '0';
                int[] p = four(mode, row, left, above);
                int d = 0;
                for (int i = 0; i < 16; i++) {
                    d += Math.abs(input[(py + i / 4) * 16 + px + i % 4] - p[i]);
                }
                if (d < least) {
                    least = d;
                    best = p;
                    MODES[b] = mode;
                }
            }
            cost += least;
            bits += MODES[b] == guess ? 1 : 4;
            int[] rest = new int[16];
            for (int i = 0; i < 16; i++) {
                rest[i] = input[(py + i / 4) * 16 + px + i % 4] - best[i];
            }
            LEVELS[b] = levels(rest, q, true);
            int[] f = filled(best, LEVELS[b], q);
            for (int i = 0; i < 16; i++) {
                shown[(py + i / 4) * 16 + px + i % 4] = f[i];
            }
        }
        return cost + (q / 4 + 1) * bits;
    }

    static boolean maySixteen(int mode, Near near) {
        return mode == 2 || mode == 0 && near.above != null || mode == 1 && near.left != null
                || mode == 3 && near.above != null && near.left != null && near.corner >= 0;
    }

    static int[] sixteen(int mode, Near near) {
        int[] out = new int[256];
        int sum = 0;
        int n = 0;
        for (int[] side : new int[][] {near.left, near.above}) {
            for (int i = 0; side != null && i < 16; i++) {
                sum += side[i];
                n++;
            }
        }
        int h = 0;
        int v = 0;
        for (int k = 1; mode == 3 && k <= 8; k++) {
            h += k * (near.above[7 + k] - (k == 8 ? near.corner : near.above[7 - k]));
            v += k * (near.left[7 + k] - (k == 8 ? near.corner : near.left[7 - k]));
        }
        for (int i = 0; i < 256; i++) {
            int x = i % 16;
            int y = i / 16;
            out[i] = mode == 0 ? near.above[x] : mode == 1 ? near.left[y] : mode == 2 ? (n == 0 ? 128 : (sum + n / 2) / n)
                    : clip(16 * (near.left[15] + near.above[15]) + (5 * h + 32 >> 6) * (x - 7) + (5 * v + 32 >> 6) * (y - 7)
                    + 16 >> 5);
        }
        return out;
    }

    static int number(int x, int y) {
        return y / 8 * 8 + x / 8 * 4 + y / 4 % 2 * 2 + x / 4 % 2;
    }

    /** A sample of a luma plane so wide, outside the nearest. */
    static int at(int[] p, int wide, int x, int y) {
        int high = p.length / wide;
        return p[Math.max(0, Math.min(high - 1, y)) * wide + Math.max(0, Math.min(wide - 1, x))];
    }

    static int tap(int a, int b, int c, int d, int e, int f) {
        return a - 5 * b + 20 * c + 20 * d - 5 * e + f;
    }

    static int across(int[] p, int wide, int x, int y) {
        return tap(at(p, wide, x - 2, y), at(p, wide, x - 1, y), at(p, wide, x, y), at(p, wide, x + 1, y), at(p, wide, x + 2, y), at(p, wide, x + 3, y));
    }

    static int down(int[] p, int wide, int x, int y) {
        return clip(tap(at(p, wide, x, y - 2), at(p, wide, x, y - 1), at(p, wide, x, y), at(p, wide, x, y + 1), at(p, wide, x, y + 2), at(p, wide, x, y + 3))
                + 16 >> 5);
    }

    static int quarter(int[] p, int wide, int x4, int y4) {
        int x = x4 >> 2;
        int y = y4 >> 2;
        int g = at(p, wide, x, y);
        int b = clip(across(p, wide, x, y) + 16 >> 5);
        int h = down(p, wide, x, y);
        int s = clip(across(p, wide, x, y + 1) + 16 >> 5);
        int m = down(p, wide, x + 1, y);
        int j = clip(tap(across(p, wide, x, y - 2), across(p, wide, x, y - 1), across(p, wide, x, y), across(p, wide, x, y + 1), across(p, wide, x, y + 2),
                across(p, wide, x, y + 3)) + 512 >> 10);
        int[][] of = {{g, g}, {g, h}, {h, h}, {h, at(p, wide, x, y + 1)}, {g, b}, {b, h}, {h, j}, {h, s}, {b, b}, {b, j}, {j, j},
            {j, s}, {b, at(p, wide, x + 1, y)}, {b, m}, {j, m}, {s, m}};
        int[] two = of[4 * (x4 & 3) + (y4 & 3)];
        return two[0] + two[1] + 1 >> 1;
    }

    /** A BLOCK whose left above is told, by a VECTOR. */
    static int[] moved(int[] p, int wide, int left, int top, int mx, int my) {
        int[] out = new int[256];
        for (int i = 0; i < 256; i++) {
            out[i] = quarter(p, wide, 4 * (left + i % 16) + mx, 4 * (top + i / 16) + my);
        }
        return out;
    }

    static int differences(int[] input, int[] p) {
        int d = 0;
        for (int i = 0; i < 256; i++) {
            d += Math.abs(input[i] - p[i]);
        }
        return d;
    }

    static int bitsOfSe(int v) {
        return 2 * (31 - Integer.numberOfLeadingZeros((v > 0 ? 2 * v - 1 : -2 * v) + 1)) + 1;
    }

    static int bits(int n, int r, int x, int y) {
        int ofR = n == 1 ? 0 : n == 2 ? 1 : 2 * (31 - Integer.numberOfLeadingZeros(r + 1)) + 1;
        return bitsOfSe(x) + bitsOfSe(y) + ofR;
    }

    /** Luma of INPUT, so wide, as these calls paint it. */
    static void paint(VideoSuite v, int[] luma, int wide, int how, int a, int b, int c) {
        v.paint(how, a, b, c);
        int s = c;
        int[] was = luma.clone();
        for (int i = 0; i < luma.length; i++) {
            int x = i % wide;
            int y = i / wide;
            if (how == 0) {
                luma[i] = a & 255;
            } else if (how == 1) {
                luma[i] = a * x + b * y + c & 255;
            } else if (how == 2) {
                s = 1664525 * s + 1013904223;
                luma[i] = clip(luma[i] + (s >>> 24) % a - b);
            } else if (how == 3) {
                luma[i] = at(was, wide, x - a, y - b);
            } else if (x >= a && x < a + 8 && y >= b && y < b + 8) {
                luma[i] = c;
            }
        }
    }
}
