import java.math.BigInteger;
import java.util.Random;

/** Promises 38 to 41: measures of OUTPUTS, and what is counted. */
public final class MeasureTest {
    public static void main(String[] args) {
        stream = streams();
        squares(pictures());
        indexes(pictures());
        qualityWrong(pictures());
        scales(pictures());
        histograms(pictures());
        counts();
        lumaAlone();
        Check.end();
    }

    private static Streams stream;
    /** The OUTPUTS' planes: noise, the same moved with less noise, and one of other size. */
    private static int[][] noisy;
    private static int[][] moved;
    private static int[][] narrow;

    private static VideoSuite pictures() {
        VideoSuite v = stream.object();
        v.decode(400);
        Check.due("three OUTPUTS", v.flush(), 3);
        return v;
    }

    /** RAW BLOCKS tell samples as they are. */
    private static Streams streams() {
        Random chance = new Random(5);
        noisy = new int[][] {new int[1024], new int[256], new int[256]};
        moved = new int[][] {new int[1024], new int[256], new int[256]};
        narrow = new int[][] {new int[960], new int[240], new int[240]};
        for (int p = 0; p < 3; p++) {
            int w = p == 0 ? 32 : 16;
            for (int i = 0; i < w * w; i++) {
                noisy[p][i] = chance.nextInt(256);
                int near = noisy[p][i % w > 0 ? i - 1 : i] + chance.nextInt(20) - 10;
                moved[p][i] = Math.max(0, Math.min(255, near));
                int n = w - (p == 0 ? 2 : 1);
                if (i % w < n) {
                    narrow[p][i / w * n + i % w] = 1 + i / w / (w / 2) * 2 + i % w / (w / 2);
                }
            }
        }
        Streams s = new Streams().size(2, 2).sets();
        s.add(raw(s, noisy, 0)).add(raw(s, moved, 1));
        s.crop = new int[] {0, 1, 0, 0};
        return s.sets().add(s.head(5, 2).raw(1, 1, 1, 2, 2, 2, 3, 3, 3, 4, 4, 4));
    }

    private static byte[] raw(Streams s, int[][] planes, int id) {
        Streams.Head h = s.head(5, 2);
        h.ownId = id;
        Bits d = h.bits();
        for (int mb = 0; mb < 4; mb++) {
            d.ue(25).align(0);
            for (int i = 0; i < 384; i++) {
                int p = i < 256 ? 0 : i < 320 ? 1 : 2;
                int n = p == 0 ? 16 : 8;
                int x = mb % 2 * n + i % n;
                int y = mb / 2 * n + i / n % n;
                d.u(8, planes[p][y * 2 * n + x]);
            }
        }
        return h.unit(d);
    }

    private static void squares(VideoSuite v) {
        long sum = 0;
        for (int i = 0; i < 1024; i++) {
            long d = noisy[0][i] - moved[0][i];
            sum += d * d;
        }
        Check.due("P38 squares", v.quality(0, 1, 0, -5, 99), sum);
        Check.due("P38 squares", v.quality(1, 0, 0, 0, 0), sum);
        Check.due("P38 squares of the same", v.quality(1, 1, 0, 0, 0), 0);
    }

    private static BigInteger[] index(int x, int y) {
        long a = 0;
        long b = 0;
        long p = 0;
        long q = 0;
        long r = 0;
        for (int i = 0; i < 64; i++) {
            long s = noisy[0][32 * (y + i / 8) + x + i % 8];
            long t = moved[0][32 * (y + i / 8) + x + i % 8];
            a += s;
            b += t;
            p += s * s;
            q += t * t;
            r += s * t;
        }
        BigInteger upper = BigInteger.valueOf(2 * a * b + 416)
                .multiply(BigInteger.valueOf(2 * (64 * r - a * b) + 239804));
        BigInteger lower = BigInteger.valueOf(a * a + b * b + 416)
                .multiply(BigInteger.valueOf(64 * p - a * a + 64 * q - b * b + 239804));
        BigInteger g = upper.gcd(lower);
        return new BigInteger[] {upper.divide(g), lower.divide(g)};
    }

    private static void indexes(VideoSuite v) {
        int negative = 0;
        for (int i = 0; i < 49; i++) {
            int x = i % 7 * 4;
            int y = i / 7 * 4;
            BigInteger[] due = index(x, y);
            Check.due("P38 upper at " + x + ", " + y, v.quality(0, 1, 1, x, y), due[0].longValueExact());
            Check.due("P38 lower at " + x + ", " + y, v.quality(0, 1, 2, x, y), due[1].longValueExact());
            negative += due[0].signum() < 0 ? 1 : 0;
        }
        Check.due("P38 the same", v.quality(0, 0, 1, 4, 8), 1);
        Check.due("P38 the same", v.quality(0, 0, 2, 4, 8), 1);
        Check.due("some are below 0", negative > 0 ? 1 : 0, 1);
    }

    private static void qualityWrong(VideoSuite v) {
        Check.bad("P38 what 3", () -> v.quality(0, 1, 3, 0, 0));
        Check.bad("P38 what -1", () -> v.quality(0, 1, -1, 0, 0));
        Check.bad("P38 bad before missing", () -> v.quality(9, 9, 3, 0, 0));
        Check.missing("P38 OUTPUT 3", () -> v.quality(3, 0, 0, 0, 0));
        Check.missing("P38 OUTPUT 3", () -> v.quality(0, 3, 0, 0, 0));
        Check.missing("P38 OUTPUT -1", () -> v.quality(-1, 0, 0, 0, 0));
        int[][] at = {{2, 0}, {0, 2}, {28, 0}, {0, 28}, {-4, 0}, {0, -4}, {25, 24}, {1 << 30, 0}};
        for (int[] p : at) {
            Check.missing("P38 at " + p[0] + ", " + p[1], () -> v.quality(0, 1, 1, p[0], p[1]));
        }
        Check.refused("P38 of other sizes", () -> v.quality(0, 2, 0, 0, 0));
        Check.refused("P38 of other sizes", () -> v.quality(2, 0, 2, 20, 0));
        Check.refused("P38 x, y by the first one", () -> v.quality(0, 2, 1, 24, 24));
        Check.missing("P38 x, y before REFUSED", () -> v.quality(2, 0, 1, 24, 24));
    }

    private static long mean(int[] row, int wide, int high, int[] to, int x, int y) {
        long sum = 0;
        for (int j = y * high; j < (y + 1) * high; j++) {
            for (int i = x * wide; i < (x + 1) * wide; i++) {
                sum += row[j / to[1] * wide + i / to[0]];
            }
        }
        long area = (long) wide * high;
        return (2 * sum + area) / (2 * area);
    }

    private static void scales(VideoSuite v) {
        int[][] sizes = {{1, 1}, {32, 32}, {16, 8}, {3, 5}, {7, 31}, {64, 33}, {256, 256}, {20, 1}};
        for (int[] to : sizes) {
            for (int n = 0; n < 6; n++) {
                int p = n % 3;
                int x = to[0] * n / 6;
                int y = to[1] * (5 - n) / 6;
                Check.due("P39 scale to " + to[0] + " by " + to[1], v.scale(0, p, to[0], to[1], x, y),
                        mean(noisy[p], p == 0 ? 32 : 16, p == 0 ? 32 : 16, to, x, y));
            }
            Check.due("P39 of 30 by 32", v.scale(2, 0, to[0], to[1], to[0] - 1, to[1] - 1),
                    mean(narrow[0], 30, 32, to, to[0] - 1, to[1] - 1));
        }
        Check.due("P39 halves up", v.scale(2, 1, 1, 1, 0, 0), (1 * 64 + 2 * 56 + 3 * 64 + 4 * 56 + 120) / 240);
        int[][] bad = {{0, 1, 0, 0}, {1, 0, 0, 0}, {257, 1, 0, 0}, {1, 257, 0, 0}, {4, 4, 4, 0}, {4, 4, 0, 4},
            {4, 4, -1, 0}, {4, 4, 0, -1}};
        for (int[] b : bad) {
            Check.bad("P39 bad", () -> v.scale(0, 0, b[0], b[1], b[2], b[3]));
            Check.bad("P39 bad before missing", () -> v.scale(9, 9, b[0], b[1], b[2], b[3]));
        }
        Check.missing("P39 plane 3", () -> v.scale(0, 3, 1, 1, 0, 0));
        Check.missing("P39 plane -1", () -> v.scale(0, -1, 1, 1, 0, 0));
        Check.missing("P39 OUTPUT 3", () -> v.scale(3, 0, 1, 1, 0, 0));
        Check.missing("P39 OUTPUT -1", () -> v.scale(-1, 0, 1, 1, 0, 0));
    }

    private static void histograms(VideoSuite v) {
        for (int p = 0; p < 3; p++) {
            int[] n = new int[256];
            for (int x : noisy[p]) {
                n[x]++;
            }
            for (int x = 0; x < 256; x += 5) {
                Check.due("P40 plane " + p + " value " + x, v.histogram(0, p, x), n[x]);
            }
        }
        Check.due("P40 of 30 by 32", v.histogram(2, 0, 2), 14 * 16);
        Check.due("P40 chroma of 15 by 16", v.histogram(2, 2, 4), 7 * 8);
        Check.due("P40 -1", v.histogram(0, 0, -1), 0);
        Check.due("P40 256", v.histogram(0, 0, 256), 0);
        Check.missing("P40 plane 3", () -> v.histogram(0, 3, 0));
        Check.missing("P40 plane -1", () -> v.histogram(0, -1, 0));
        Check.missing("P40 OUTPUT 3", () -> v.histogram(3, 0, 0));
        Check.missing("P40 OUTPUT -1", () -> v.histogram(-1, 0, 0));
    }

    private static void counts() {
        Streams s = new Streams().size(2, 1);
        s.refs = 2;
        s.sets().add(s.head(5, 2).raw(1, 1, 1, 2, 2, 2)).add(s.head(1, 2).at(1, 2).raw(3, 3, 3));
        s.add(s.head(1, 2).at(2, 3).ref(0).raw(3, 3, 3)).add(Streams.bytes(0x67));
        VideoSuite v = s.object();
        v.feed(1, 2, 3, 4, 5);
        v.decode(5);
        int[] due = {20, 6, 5, 0, 0, 2, 1, 3};
        for (int what = 0; what < due.length; what++) {
            Check.due("P41 count(" + what + ")", v.count(what), due[what]);
        }
        v.decode(1);
        int[] then = {20, 6, 6, 0, 1, 3, 0, 3, 0};
        for (int what = 0; what < then.length; what++) {
            Check.due("P41 count(" + what + ") then", v.count(what), then[what]);
        }
        v.flush();
        Check.due("P41 OUTPUTS", v.count(3), 3);
        Check.due("P41 PICTURES in the STORE", v.count(5), 2);
        Check.due("P41 REPAIRED", v.count(14), 2);
        Check.due("P41 BOXES", v.count(12), 0);
        v.mux();
        v.demux();
        Check.due("P41 BOXES", v.count(12), 7);
        Check.due("P41 count(15)", v.count(15), -1);
        Check.due("P41 count(-1)", v.count(-1), -1);
        Check.due("P41 count of the least", v.count(Integer.MIN_VALUE), -1);
        v.setting(9, 12345);
        v.setting(6, 2);
        v.setting(7, 2);
        v.setting(8, 1);
        v.open();
        Check.due("P41 CHANCE", v.count(13), 12345);
        v.encode();
        v.encode();
        Check.due("P41 PICTURES coded", v.count(10), 1);
        Check.due("P41 those that wait", v.count(11), 1);
        Check.due("P41 CHANCE goes on", v.count(13) != 12345 ? 1 : 0, 1);
        Check.due("P41 bytes MADE", v.count(9) > 20 ? 1 : 0, 1);
    }

    /** Luma alone counts, and all of it: pictures that differ in their chroma, or in the last sample. */
    private static void lumaAlone() {
        int[] last = new int[384];
        java.util.Arrays.fill(last, 77);
        last[255] = 80;
        Streams s = new Streams().sets();
        s.lowBits = 4;
        s.add(s.head(5, 2).raw(77, 10, 20)).add(s.head(1, 2).at(1, 2).raw(77, 200, 90));
        s.add(s.head(1, 2).at(2, 4).data().type(25).raw(last).unit());
        VideoSuite v = s.object();
        v.decode(400);
        Check.due("P12 outputs", v.flush(), 3);
        Check.due("P38 squares of other chroma", v.quality(0, 1, 0, 0, 0), 0);
        Check.due("P38 squares of the last sample", v.quality(1, 2, 0, 0, 0), 9);
        Check.due("P38 the index of other chroma", v.quality(0, 1, 1, 8, 8), 1);
        Check.due("P38 the index of other chroma", v.quality(0, 1, 2, 8, 8), 1);
    }
}
