import java.util.Random;

/**
 * Section 8, by costs: what is chosen for a BLOCK alone (nothing is THERE around it), reckoned here from INPUT and
 * the OUTPUTS before it, and the LEVELS of what is left.
 */
public final class CostsTest {
    private static final Costs.Near ALONE = new Costs.Near();

    public static void main(String[] args) {
        for (int seed = 0; seed < 60; seed++) {
            own(seed);
        }
        for (int seed = 0; seed < 60; seed++) {
            anchors(seed);
        }
        for (int seed = 0; seed < 120; seed++) {
            both(seed);
        }
        // seeds of costs that are the same, or one apart
        isCalm = true;
        for (int seed : new int[] {240, 525, 569, 764, 869, 2234}) {
            own(seed);
        }
        for (int seed : new int[] {150, 224, 245, 330, 540, 635, 639, 780, 1020, 1170, 1329}) {
            anchors(seed);
        }
        both(4447);
        both(7210);
        isCalm = false;
        directMoved();
        oneLevel();
        evenAlone();
        measures();
        mostLevel();
        Check.end();
    }

    private static VideoSuite open(int... settings) {
        VideoSuite v = new VideoSuite();
        for (int i = 0; i < settings.length; i += 2) {
            v.setting(settings[i], settings[i + 1]);
        }
        v.open();
        return v;
    }

    private static int costOfSixteen(int[] input, int q) {
        int d = 0;
        for (int x : input) {
            d += Math.abs(x - 128);
        }
        return d + (q / 4 + 1) * 8;
    }

    private static void paint(VideoSuite v, int[] luma, int how, int a, int b, int c) {
        Costs.paint(v, luma, 16, how, a, b, c);
    }

    private static int[] moved(int[] p, int mx, int my) {
        return Costs.moved(p, 16, 0, 0, mx, my);
    }

    /** The BLOCK of the PICTURE that was decoded last is I: as is told by costs. */
    private static void isI(String what, VideoSuite v, int[] input, int q, int least) {
        int sixteen = costOfSixteen(input, q);
        int four = Costs.costOfFour(input, q, ALONE);
        int kind = Math.min(sixteen, four) >= least ? 3 : sixteen <= four ? 1 : 0;
        Check.due(what + ": kind", v.block(0, 0), kind);
        for (int b = 0; b < 16 && kind == 0; b++) {
            Check.due(what + ": mode of " + b, v.block(0, 8 + b), Costs.MODES[b]);
            boolean isTold = (v.block(0, 3) >> b / 4 & 1) == 1;
            boolean has = false;
            for (int i = 0; i < 16; i++) {
                has |= Costs.LEVELS[b][i] != 0;
            }
            Check.due(what + ": a quarter's bit", has && !isTold ? 1 : 0, 0);
            for (int i = 0; i < 16; i += 3) {
                Check.due(what + ": LEVEL " + i + " of " + b, v.level(0, b, i), Costs.LEVELS[b][i]);
            }
        }
        if (kind == 1) {
            sixteensLevels(what, v, input, q);
        }
    }

    private static void sixteensLevels(String what, VideoSuite v, int[] input, int q) {
        int[] even = new int[16];
        int all = 0;
        int[][] rest = new int[16][16];
        for (int b = 0; b < 16; b++) {
            int px = b / 4 % 2 * 8 + b % 2 * 4;
            int py = b / 8 * 8 + b / 2 % 2 * 4;
            for (int i = 0; i < 16; i++) {
                rest[b][i] = input[(py + i / 4) * 16 + px + i % 4] - 128;
            }
            even[py + px / 4] = Costs.turned(rest[b])[0];
            rest[b] = Costs.levels(rest[b], q, true);
            for (int i = 1; i < 16; i++) {
                all += rest[b][i] != 0 ? 1 : 0;
            }
        }
        Check.due(what + ": luma pattern", v.block(0, 3), all > 0 ? 15 : 0);
        for (int k = 0; k < 64; k++) {
            int b = k / 4;
            int i = 1 + k * 7 % 15;
            Check.due(what + ": LEVEL " + i + " of " + b, v.level(0, b, i), rest[b][i]);
        }
        int[][] m = {{1, 1, 1, 1}, {1, 1, -1, -1}, {1, -1, -1, 1}, {1, -1, 1, -1}};
        for (int i = 0; i < 16; i++) {
            int w = 0;
            for (int k = 0; k < 16; k++) {
                w += m[Costs.SCAN_Y[i]][k / 4] * even[k] * m[k % 4][Costs.SCAN_X[i]];
            }
            int add = 2 * ((1 << 15 + q / 6) / 3);
            Check.due(what + ": EVEN 16, " + i, v.level(0, 16, i), Costs.level(w / 2, Costs.of(Costs.MEASURE, q, 0, 0), add, 16 + q / 6));
        }
    }

    private static void own(int seed) {
        Random r = new Random(seed);
        int q = 12 + r.nextInt(40);
        VideoSuite v = open(0, 1, 1, 1, 3, q, 2, seed % 2);
        int[] luma = new int[256];
        if (isCalm) {
            calm(v, luma, seed);
        } else if (seed % 3 > 0) {
            paint(v, luma, 1, r.nextInt(21) - 10, r.nextInt(21) - 10, r.nextInt(256));
        } else {
            paint(v, luma, 0, 100 + r.nextInt(60), 128, 128);
        }
        if (seed % 4 > 0 && !isCalm) {
            paint(v, luma, 4, r.nextInt(10), r.nextInt(10), r.nextInt(256));
        }
        int noise = 1 + r.nextInt(seed % 5 == 0 ? 200 : 12);
        if (!isCalm) {
            paint(v, luma, 2, noise, noise / 2, seed);
        }
        v.encode();
        v.take();
        v.decode(3);
        Check.due("P24 FAULTS", v.count(4), 0);
        isI("OWN of seed " + seed, v, luma, q, Integer.MAX_VALUE);
    }

    // ---- lists

    /** cost, reference, x, y, bits of the best of a list; the GUESS is 0 0. */
    private static int[] search(int[] input, int[][] list, int reach, int price) {
        int[] best = {Integer.MAX_VALUE, 0, 0, 0, 0};
        for (int r = 0; r < list.length; r++) {
            int[] mine = {Integer.MAX_VALUE, r, 0, 0, 0};
            for (int y = -reach; y <= reach; y++) {
                for (int x = -reach; x <= reach; x++) {
                    offer(mine, input, list, r, 4 * x, 4 * y, price);
                }
            }
            for (int step = 2; step > 0; step--) {
                int x = mine[2];
                int y = mine[3];
                for (int k = 0; k < 9; k++) {
                    if (k != 4) {
                        offer(mine, input, list, r, x + step * (k % 3 - 1), y + step * (k / 3 - 1), price);
                    }
                }
            }
            best = mine[0] < best[0] ? mine : best;
        }
        return best;
    }

    private static void offer(int[] mine, int[] input, int[][] list, int r, int x, int y, int price) {
        int bits = Costs.bits(list.length, r, x, y);
        int cost = Costs.differences(input, moved(list[r], x, y)) + price * bits;
        if (cost < mine[0]) {
            mine[0] = cost;
            mine[2] = x;
            mine[3] = y;
            mine[4] = bits;
        }
    }

    /** Luma of an OUTPUT of one BLOCK. */
    private static int[] shown(VideoSuite v, int order) {
        int k = 0;
        while (v.picture(k, 2) != order) {
            k++;
        }
        int[] p = new int[256];
        for (int i = 0; i < 256; i++) {
            p[i] = v.sample(k, 0, i % 16, i / 16);
        }
        return p;
    }

    /** By an object of its own, as an object answers 512 calls alone. */
    private static int[] shown(Coded made, int order) {
        VideoSuite v = made.again();
        v.take();
        v.decode(400);
        v.flush();
        return shown(v, order);
    }

    interface Coded {
        VideoSuite again();
    }

    /** All nearly flat, so that costs are near one another. */
    private static boolean isCalm;

    private static void calm(VideoSuite v, int[] luma, int seed) {
        int noise = 1 + seed / 3 % 5;
        paint(v, luma, 0, 126 + seed % 5, 128, 128);
        paint(v, luma, 2, noise, noise / 2, seed);
    }

    private static void texture(VideoSuite v, int[] luma, int seed) {
        if (isCalm) {
            calm(v, luma, seed);
            return;
        }
        paint(v, luma, 1, seed % 7 * 3 - 9, seed % 5 * 4 - 8, 90);
        paint(v, luma, 4, seed % 9, seed % 8, 200);
        paint(v, luma, 2, 60, 30, seed);
    }

    private static VideoSuite coded(int seed, int pictures, int[] last, int... settings) {
        VideoSuite v = open(settings);
        int[] luma = last;
        texture(v, luma, seed);
        for (int i = 1; i <= pictures; i++) {
            if (isCalm && i > 1) {
                calm(v, luma, seed + 7 * i);
            } else if (i == pictures && seed % 6 == 5) {
                paint(v, luma, 0, 100 + seed, 128, 128);
                paint(v, luma, 2, 3 + seed % 9, 1 + seed % 9 / 2, seed + i);
            } else if (i > 1) {
                paint(v, luma, 3, (seed + i) % 5 - 2, (seed / 2 + i) % 5 - 2, 0);
                paint(v, luma, 2, 3 + seed % 9, 1 + seed % 9 / 2, seed + i);
            }
            v.encode();
        }
        return v;
    }

    private static void anchors(int seed) {
        int refs = 1 + seed % 3;
        int q = 14 + seed % 30;
        int reach = seed % 5;
        int[] settings = {0, 1, 1, 1, 3, 20, 4, q, 7, refs, 10, reach, 2, seed % 2};
        int n = 1 + refs;
        int[] input = new int[256];
        VideoSuite v = coded(seed, n, input, settings);
        int[][] list = new int[refs][];
        for (int r = 0; r < refs; r++) {
            list[r] = shown(() -> coded(seed, n, new int[256], settings), 2 * (n - 2 - r));
        }
        int[] best = search(input, list, reach, q / 4 + 1);
        v.take();
        v.decode(400);
        String what = "P of seed " + seed;
        isI(what, v, input, q, best[0]);
        if (v.block(0, 0) == 3) {
            Check.due(what + ": reference", v.vector(0, 0, 0, 2), best[1]);
            Check.due(what + ": x", v.vector(0, 0, 0, 0), best[2]);
            Check.due(what + ": y", v.vector(0, 0, 0, 1), best[3]);
            restOf(what, v, input, moved(list[best[1]], best[2], best[3]), q);
        }
    }

    /** LEVELS of a BLOCK that is not I; SKIPPED, if it may be. */
    private static void restOf(String what, VideoSuite v, int[] input, int[] p, int q) {
        int pattern = 0;
        for (int b = 0; b < 16; b++) {
            int px = b / 4 % 2 * 8 + b % 2 * 4;
            int py = b / 8 * 8 + b / 2 % 2 * 4;
            int[] rest = new int[16];
            for (int i = 0; i < 16; i++) {
                int at = (py + i / 4) * 16 + px + i % 4;
                rest[i] = input[at] - p[at];
            }
            int[] level = Costs.levels(rest, q, false);
            for (int i = 0; i < 16; i++) {
                pattern |= level[i] != 0 ? 1 << b / 4 : 0;
            }
            for (int i = b % 3; i < 16; i += 3) {
                Check.due(what + ": LEVEL " + i + " of " + b, v.level(0, b, i), level[i]);
            }
        }
        Check.due(what + ": luma pattern", v.block(0, 3), pattern);
        boolean atRest = v.vector(0, 0, 0, 2) == 0 && v.vector(0, 0, 0, 0) == 0 && v.vector(0, 0, 0, 1) == 0;
        boolean isP = v.slice(1) == 0;
        if (isP) {
            Check.due(what + ": SKIPPED", v.block(0, 1), pattern + v.block(0, 4) == 0 && atRest ? -1 : 0);
        }
    }

    /** A slope and a square that go on by one sample each time, without noise. */
    private static void going(VideoSuite v, int[] luma, int seed, int step) {
        paint(v, luma, 1, 9, 7, 60 + seed - 16 * step);
        paint(v, luma, 4, 2 + step, 2 + step, 230);
    }

    /** OWN 0, B 2, P 4: the second one waits; input becomes what it was. */
    private static VideoSuite three(int seed, int[] input, int... settings) {
        VideoSuite v = open(settings);
        int way = seed % 5;
        int[] luma = new int[256];
        for (int i = 0; i < 3; i++) {
            if (isCalm) {
                calm(v, luma, seed + 7 * i);
            } else if (way == 4 || way == 3) {
                // going on between noise, or standing
                going(v, luma, seed, way == 4 ? i : 0);
            } else if (i == 0 || way == 2) {
                texture(v, luma, seed);
            } else if (way == 0) {
                paint(v, luma, 3, (seed + i) % 3 - 1, (seed / 3 + i) % 3 - 1, 0);
            }
            if (way == 2 && i == 1 && !isCalm) {
                paint(v, luma, 0, 100 + seed, 128, 128);
            }
            if (!isCalm && (way < 3 || i != 1)) {
                paint(v, luma, 2, 3 + seed % 30, 1 + seed % 30 / 2, seed + 5 + i);
            }
            v.encode();
            if (i == 1) {
                System.arraycopy(luma, 0, input, 0, 256);
            }
        }
        return v;
    }

    private static void both(int seed) {
        int q = 14 + seed % 30;
        int reach = seed % 4;
        int[] settings = {0, 1, 1, 1, 3, 20, 4, 24, 5, q, 6, 1, 7, 2, 10, reach, 2, seed % 2, 21, seed / 2 % 2 * 2,
            22, seed / 4 % 2};
        int[] input = new int[256];
        VideoSuite v = three(seed, input, settings);
        v.take();
        v.decode(4);
        // the P's VECTOR, for DIRECT by time
        boolean isMoved = v.block(0, 0) == 3 && seed / 4 % 2 == 0;
        int[] m = {isMoved ? v.vector(0, 0, 0, 0) : 0, isMoved ? v.vector(0, 0, 0, 1) : 0};
        v.decode(1);
        // list 0: ORDER 0, then 4; list 1: 4
        int[][] list0 = new int[2][];
        for (int r = 0; r < 2; r++) {
            list0[r] = shown(() -> three(seed, new int[256], settings), 4 * r);
        }
        decide("B of seed " + seed, v, input, list0, reach, q, m);
    }

    private static int[] mean(int[] a, int[] b) {
        int[] out = new int[256];
        for (int i = 0; i < 256; i++) {
            out[i] = a[i] + b[i] + 1 >> 1;
        }
        return out;
    }

    private static void decide(String what, VideoSuite v, int[] input, int[][] list0, int reach, int q, int[] m) {
        int price = q / 4 + 1;
        int[][] list1 = {list0[1]};
        int[] a = search(input, list0, reach, price);
        int[] b = search(input, list1, reach, price);
        int[] two = mean(moved(list0[a[1]], a[2], a[3]), moved(list1[0], b[2], b[3]));
        // by time in the middle: half of the VECTOR, and that less the whole; else 0 0; the weights are 32 and 32
        int x0 = 128 * m[0] + 128 >> 8;
        int y0 = 128 * m[1] + 128 >> 8;
        int[] direct = mean(moved(list0[0], x0, y0), moved(list1[0], x0 - m[0], y0 - m[1]));
        int[] costs = {a[0], b[0], Costs.differences(input, two) + price * (a[4] + b[4]), Costs.differences(input, direct)};
        int best = 0;
        for (int i = 1; i < 4; i++) {
            best = costs[i] < costs[best] ? i : best;
        }
        isI(what, v, input, q, costs[best]);
        if (v.block(0, 0) != 3) {
            return;
        }
        int type = best == 3 ? 0 : best + 1;
        boolean none = v.block(0, 3) + v.block(0, 4) == 0;
        Check.due(what + ": type", v.block(0, 1), type == 0 && none ? -1 : type);
        int[][] due = {{best == 1 ? -1 : best == 3 ? 0 : a[1], best == 1 ? 0 : best == 3 ? x0 : a[2],
            best == 1 ? 0 : best == 3 ? y0 : a[3]},
            {best == 0 ? -1 : 0, best == 0 ? 0 : best == 3 ? x0 - m[0] : b[2], best == 0 ? 0 : best == 3 ? y0 - m[1] : b[3]}};
        for (int l = 0; l < 2; l++) {
            Check.due(what + ": reference by list " + l, v.vector(0, 0, l, 2), due[l][0]);
            Check.due(what + ": x by list " + l, v.vector(0, 0, l, 0), due[l][1]);
            Check.due(what + ": y by list " + l, v.vector(0, 0, l, 1), due[l][2]);
        }
        int[] p = best == 0 ? moved(list0[a[1]], a[2], a[3]) : best == 1 ? moved(list1[0], b[2], b[3]) : best == 2 ? two : direct;
        restOf(what, v, input, p, q);
    }

    /** One LEVEL that is not EVEN is enough for SIXTEEN's luma pattern. */
    private static void oneLevel() {
        for (int more = 4; more < 8; more++) {
            VideoSuite v = open(0, 1, 1, 1, 3, 12);
            v.paint(4, 15, 15, 128 + more);
            v.encode();
            v.take();
            v.decode(3);
            int[] luma = new int[256];
            java.util.Arrays.fill(luma, 128);
            luma[255] = 128 + more;
            isI("a sample " + more + " more", v, luma, 12, Integer.MAX_VALUE);
            Check.due("P18 luma pattern of one sample " + more + " more", v.block(0, 3), more > 4 ? 15 : 0);
        }
    }

    /** Chroma that is flat: EVEN alone, chroma pattern 1; a sample more: 2. */
    private static void evenAlone() {
        for (int u = 118; u <= 138; u += 2) {
            VideoSuite v = open(0, 1, 1, 1, 3, 28);
            v.paint(0, 128, u, 128);
            v.encode();
            v.take();
            v.decode(3);
            int w = 4 * 16 * (u - 128);
            int due = Costs.level(w, Costs.of(Costs.MEASURE, 28, 0, 0), 2 * ((1 << 19) / 3), 20);
            Check.due("P20 EVEN 4 of " + u, v.level(0, 17, 0), due);
            Check.due("P18 chroma pattern of " + u, v.block(0, 4), due == 0 ? 0 : 1);
        }
        VideoSuite v = open(0, 1, 1, 1, 3, 20);
        v.paint(2, 90, 45, 1);
        v.encode();
        v.take();
        v.decode(3);
        Check.due("P18 chroma pattern of noise", v.block(0, 4), 2);
    }

    /** Each LEVEL of chroma, that is predicted as 128, for each STEP that chroma can have. */
    private static void measures() {
        for (int seed = 0; seed < 720; seed++) {
            int q = seed % 2 == 0 ? seed / 2 % 6 : seed % 40;
            // chroma's STEP is told by STEP and APART; from 30 on it is less than both
            VideoSuite v = open(0, 1, 1, 1, 3, Math.max(12, q), 23, Math.min(0, q - 12));
            v.paint(2, 0, 128, seed);
            v.encode();
            v.take();
            v.decode(3);
            int[] input = new int[384];
            int s = seed;
            for (int i = 0; i < 384; i++) {
                s = 1664525 * s + 1013904223;
                input[i] = s >>> 24;
            }
            int i0 = Math.max(0, q);
            int chroma = i0 < 30 ? i0 : new int[] {29, 30, 31, 32, 32, 33, 34, 34, 35, 35}[i0 - 30];
            int[] even = new int[8];
            for (int k = 0; k < 8; k++) {
                int[] rest = new int[16];
                for (int i = 0; i < 16; i++) {
                    rest[i] = input[256 + 64 * (k / 4) + (k / 2 % 2 * 4 + i / 4) * 8 + k % 2 * 4 + i % 4] - 128;
                }
                even[k] = Costs.turned(rest)[0];
                int[] level = Costs.levels(rest, chroma, true);
                for (int i = 1; i < 16; i++) {
                    Check.due("P20 chroma LEVEL " + i + " of " + k + ", STEP " + chroma, v.level(0, 19 + k, i), level[i]);
                }
            }
            int add = 2 * ((1 << 15 + chroma / 6) / 3);
            for (int k = 0; k < 8; k++) {
                int w = 0;
                for (int c = 0; c < 4; c++) {
                    // rows + + + +, + - + -, + + - -, + - - +
                    int sign = (c & k & 1) + (c & k & 2) / 2;
                    w += sign % 2 == 0 ? even[k / 4 * 4 + c] : -even[k / 4 * 4 + c];
                }
                int due = Costs.level(w, Costs.of(Costs.MEASURE, chroma, 0, 0), add, 16 + chroma / 6);
                Check.due("P20 EVEN 4, " + k + ", STEP " + chroma, v.level(0, 17 + k / 4, k % 4), due);
            }
        }
    }

    /** LEVELS are 2000 at most: EVEN 4 of chroma from 0 to 255, and back. */
    private static void mostLevel() {
        int[][] rows = {{0, 255, -12, 2000}, {255, 0, -12, -2000}, {0, 156, -12, 1996}, {0, 157, -12, 2000}, {0, 255, 0, 816}};
        for (int[] r : rows) {
            VideoSuite v = open(0, 1, 1, 1, 3, 12, 4, 12, 23, r[2], 17, 0);
            v.paint(0, 100, r[0], r[0]);
            v.encode();
            v.paint(0, 100, r[1], r[1]);
            v.encode();
            v.take();
            v.decode(400);
            Check.due("the BLOCK is by lists", v.block(0, 0), 3);
            Check.due("P20 from " + r[0] + " to " + r[1] + " at " + r[2], v.level(0, 17, 0), r[3]);
            Check.due("P20 the other plane", v.level(0, 18, 0), r[3]);
        }
    }

    /** B: DIRECT by time, moved, is SKIPPED where it has no LEVELS. */
    private static void directMoved() {
        for (int coding = 0; coding < 2; coding++) {
            VideoSuite v = open(0, 1, 1, 1, 2, coding, 3, 12, 4, 12, 5, 38, 6, 1, 7, 2, 10, 4, 22, 0);
            v.paint(1, 4, 2, 60);
            v.paint(4, 4, 4, 200);
            v.paint(2, 9, 4, 3);
            v.encode();
            v.paint(3, 1, 1, 0);
            v.encode();
            v.paint(3, 1, 1, 0);
            v.encode();
            v.take();
            v.decode(4);
            Check.due("P19 the P is moved", v.vector(0, 0, 0, 0), -8);
            v.decode(1);
            Check.due("P17 B", v.slice(1), 1);
            Check.due("P19 half of it", v.vector(0, 0, 0, 0), -4);
            Check.due("P19 half of it less the whole", v.vector(0, 0, 1, 1), 4);
            Check.due("P18 no LEVELS", v.block(0, 3) + v.block(0, 4), 0);
            Check.due("P18 SKIPPED", v.block(0, 1), -1);
        }
    }
}
