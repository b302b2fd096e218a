import java.util.Random;

/**
 * Section 8, by costs: what is chosen for each BLOCK of 2 by 2, whose NEIGHBOURS are THERE, reckoned here from INPUT,
 * the OUTPUTS before it, and what the decoder tells of the BLOCKS around. Edges are off, so that OUTPUTS are as they
 * were predicted from.
 */
public final class NeighboursTest {
    private static final int WIDE = 32;

    public static void main(String[] args) {
        for (int seed = 0; seed < 24; seed++) {
            picture(seed, 1);
        }
        for (int seed = 0; seed < 90; seed++) {
            picture(seed, 2 + seed % 3);
        }
        // places of the same cost: the first one
        for (int seed : new int[] {130, 187, 201, 399, 807, 983, 1146, 1923}) {
            picture(seed, 2 + seed % 3);
        }
        Check.end();
    }

    private static VideoSuite coded(int seed, int pictures, int[] luma) {
        Random r = new Random(seed);
        VideoSuite v = new VideoSuite();
        int[] settings = {3, 16 + r.nextInt(30), 4, stepOf(seed), 7, refsOf(seed), 10, seed % 4, 2, seed % 2, 13, 1, 19,
            seed / 3 % 2};
        for (int i = 0; i < settings.length; i += 2) {
            v.setting(settings[i], settings[i + 1]);
        }
        v.open();
        for (int i = 0; i < luma.length; i++) {
            luma[i] = 128;
        }
        // flat ones, and those that go on just so, are left to SIXTEEN and SKIPPED
        boolean isFlat = seed % 5 == 3;
        boolean isSame = seed % 5 == 4;
        int slope = isFlat ? 2 : 6;
        Costs.paint(v, luma, WIDE, 1, r.nextInt(2 * slope + 1) - slope, r.nextInt(2 * slope + 1) - slope, r.nextInt(256));
        for (int i = 0; i < 3 && !isFlat; i++) {
            Costs.paint(v, luma, WIDE, 4, r.nextInt(25), r.nextInt(25), r.nextInt(256));
        }
        int noise = isFlat ? 3 : 1 + r.nextInt(seed % 4 == 0 ? 90 : 14);
        int x = r.nextInt(3) - 1;
        int y = r.nextInt(3) - 1;
        for (int i = 0; i < pictures; i++) {
            if (isFlat && i > 0) {
                Costs.paint(v, luma, WIDE, 1, r.nextInt(5) - 2, r.nextInt(5) - 2, r.nextInt(256));
            } else if (i > 0) {
                Costs.paint(v, luma, WIDE, 3, isSame ? x : r.nextInt(7) - 3, isSame ? y : r.nextInt(7) - 3, 0);
                if (!isSame) {
                    Costs.paint(v, luma, WIDE, 4, r.nextInt(25), r.nextInt(25), r.nextInt(256));
                }
            }
            if (i == 0 || !isSame) {
                Costs.paint(v, luma, WIDE, 2, noise, noise / 2, seed + i);
            }
            v.encode();
        }
        return v;
    }

    private static int stepOf(int seed) {
        return seed % 5 == 4 ? 40 + seed % 11 : 14 + seed * 7 % 37;
    }

    private static int refsOf(int seed) {
        return 1 + seed / 2 % 3;
    }

    /** Luma of an OUTPUT, by objects of their own, as an object answers 512 calls alone. */
    private static int[] shown(int seed, int pictures, int k) {
        int[] out = new int[WIDE * WIDE];
        for (int from = 0; from < out.length; from += 400) {
            VideoSuite v = coded(seed, pictures, new int[WIDE * WIDE]);
            v.take();
            v.decode(400);
            v.flush();
            for (int i = from; i < out.length && i < from + 400; i++) {
                out[i] = v.sample(k, 0, i % WIDE, i / WIDE);
            }
        }
        return out;
    }

    private static void picture(int seed, int pictures) {
        int[] luma = new int[WIDE * WIDE];
        VideoSuite v = coded(seed, pictures, luma);
        int q = pictures == 1 ? v.coded(0, 1) : stepOf(seed);
        int refs = Math.min(pictures - 1, refsOf(seed));
        int[][] list = new int[refs][];
        for (int r = 0; r < refs; r++) {
            list[r] = shown(seed, pictures, pictures - 2 - r);
        }
        int[] now = shown(seed, pictures, pictures - 1);
        v.take();
        v.decode(400);
        Check.due("P24 FAULTS", v.count(4), 0);
        for (int mb = 0; mb < 4; mb++) {
            String what = "BLOCK " + mb + " of PICTURE " + pictures + " of seed " + seed;
            decide(what, v, luma, list, now, mb, q, seed);
        }
    }

    private static int[] blockOf(int[] luma, int mb) {
        int[] out = new int[256];
        for (int i = 0; i < 256; i++) {
            out[i] = luma[(mb / 2 * 16 + i / 16) * WIDE + mb % 2 * 16 + i % 16];
        }
        return out;
    }

    /** What may be predicted from; own 1: I alone. */
    private static Costs.Near near(VideoSuite v, int[] now, int mb, boolean own) {
        Costs.Near near = new Costs.Near();
        int left = mb % 2 * 16;
        int top = mb / 2 * 16;
        boolean hasLeft = mb % 2 == 1 && (!own || v.block(mb - 1, 0) < 3);
        boolean hasAbove = mb > 1 && (!own || v.block(mb - 2, 0) < 3);
        if (hasLeft) {
            near.left = new int[16];
            for (int i = 0; i < 16; i++) {
                near.left[i] = now[(top + i) * WIDE + left - 1];
            }
            for (int i = 0; i < 4; i++) {
                near.leftMode[i] = v.block(mb - 1, 8 + Costs.number(12, 4 * i));
            }
        }
        if (hasAbove) {
            near.above = new int[16];
            System.arraycopy(now, (top - 1) * WIDE + left, near.above, 0, 16);
            for (int i = 0; i < 4; i++) {
                near.aboveMode[i] = v.block(mb - 2, 8 + Costs.number(4 * i, 12));
            }
        }
        // of a BLOCK not FOUR the mode counts as 2
        for (int i = 0; i < 4; i++) {
            near.leftMode[i] = hasLeft && v.block(mb - 1, 0) != 0 ? 2 : near.leftMode[i];
            near.aboveMode[i] = hasAbove && v.block(mb - 2, 0) != 0 ? 2 : near.aboveMode[i];
        }
        if (mb == 2 && (!own || v.block(1, 0) < 3)) {
            near.behind = new int[] {now[15 * WIDE + 16], now[15 * WIDE + 17], now[15 * WIDE + 18], now[15 * WIDE + 19]};
        }
        if (mb == 3 && (!own || v.block(0, 0) < 3)) {
            near.corner = now[15 * WIDE + 15];
        }
        return near;
    }

    /** reference, x, y of a BLOCK by list 0 that is THERE; -1, 0, 0 else. */
    private static int[] motionOf(VideoSuite v, int mb) {
        return mb < 0 ? new int[] {-1, 0, 0}
                : new int[] {v.vector(mb, 3, 0, 2), v.vector(mb, 3, 0, 0), v.vector(mb, 3, 0, 1)};
    }

    private static int middle(int a, int b, int c) {
        return Math.max(Math.min(a, b), Math.min(Math.max(a, b), c));
    }

    /** The GUESS of 16 by 16. */
    private static int[] guess(int[][] abc, int mb, int r) {
        if (mb == 1) {
            return new int[] {abc[0][1], abc[0][2]};
        }
        int found = -1;
        int n = 0;
        for (int i = 0; i < 3; i++) {
            if (abc[i][0] == r) {
                found = i;
                n++;
            }
        }
        return n == 1 ? new int[] {abc[found][1], abc[found][2]}
                : new int[] {middle(abc[0][1], abc[1][1], abc[2][1]), middle(abc[0][2], abc[1][2], abc[2][2])};
    }

    private static int[] skippedBy(int[][] abc, int mb) {
        boolean rests = abc[0][0] == 0 && abc[0][1] == 0 && abc[0][2] == 0 || abc[1][0] == 0 && abc[1][1] == 0 && abc[1][2] == 0;
        return mb < 3 || rests ? new int[2] : guess(abc, mb, 0);
    }

    private static void decide(String what, VideoSuite v, int[] luma, int[][] list, int[] now, int mb, int q, int seed) {
        int[] input = blockOf(luma, mb);
        boolean own = seed / 3 % 2 == 1;
        int price = q / 4 + 1;
        int[][] abc = {motionOf(v, mb % 2 == 1 ? mb - 1 : -1), motionOf(v, mb > 1 ? mb - 2 : -1),
            motionOf(v, mb == 2 ? 1 : mb == 3 ? 0 : -1)};
        int[] best = {Integer.MAX_VALUE, -1, 0, 0};
        for (int r = 0; r < list.length; r++) {
            int[] found = search(input, list, r, guess(abc, mb, r), mb, seed % 4, price);
            best = found[0] < best[0] ? found : best;
        }
        Costs.Near near = near(v, now, mb, own);
        int least = best[0];
        int kind = 3;
        int mode = 0;
        for (int m = 0; m < 4; m++) {
            int cost = Costs.maySixteen(m, near) ? Costs.differences(input, Costs.sixteen(m, near)) + 8 * price
                    : Integer.MAX_VALUE;
            if (cost < least) {
                least = cost;
                kind = 1;
                mode = m;
            }
        }
        kind = Costs.costOfFour(input, q, near) < least ? 0 : kind;
        Check.due(what + ": kind", v.block(mb, 0), kind);
        for (int b = 0; b < 16 && kind < 2 && v.block(mb, 0) == kind; b++) {
            Check.due(what + ": mode of " + b, v.block(mb, 8 + b), kind == 1 ? mode : Costs.MODES[b]);
        }
        if (kind == 3 && v.block(mb, 0) == 3) {
            for (int i = 0; i < 3; i++) {
                Check.due(what + ": reference, x, y: " + i, v.vector(mb, 0, 0, (i + 2) % 3), best[1 + i]);
            }
            int[] skipped = skippedBy(abc, mb);
            boolean none = v.block(mb, 3) + v.block(mb, 4) == 0;
            boolean is = none && best[1] == 0 && best[2] == skipped[0] && best[3] == skipped[1];
            Check.due(what + ": SKIPPED or type 0", v.block(mb, 1), is ? -1 : 0);
        }
    }

    /** cost, reference, x, y of the best by an entry. */
    private static int[] search(int[] input, int[][] list, int r, int[] guess, int mb, int reach, int price) {
        int[] best = {Integer.MAX_VALUE, r, 0, 0};
        for (int y = -reach; y <= reach; y++) {
            for (int x = -reach; x <= reach; x++) {
                offer(best, input, list, guess, mb, 4 * ((guess[0] + 2 >> 2) + x), 4 * ((guess[1] + 2 >> 2) + y), price);
            }
        }
        for (int step = 2; step > 0; step--) {
            int x = best[2];
            int y = best[3];
            for (int k = 0; k < 9; k++) {
                if (k != 4) {
                    offer(best, input, list, guess, mb, x + step * (k % 3 - 1), y + step * (k / 3 - 1), price);
                }
            }
        }
        return best;
    }

    private static void offer(int[] best, int[] input, int[][] list, int[] guess, int mb, int x, int y, int price) {
        int r = best[1];
        int[] p = Costs.moved(list[r], WIDE, mb % 2 * 16, mb / 2 * 16, x, y);
        int cost = Costs.differences(input, p) + price * Costs.bits(list.length, r, x - guess[0], y - guess[1]);
        if (cost < best[0]) {
            best[0] = cost;
            best[2] = x;
            best[3] = y;
        }
    }
}
