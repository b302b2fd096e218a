import java.math.BigInteger;

/** Promises 38 to 41: measures of OUTPUTS, and what is counted. */
public final class MeasureTest {
    public static void main(String[] args) {
        VideoSuite v = pictures();
        squares(v);
        indexes(v);
        qualityWrong(v);
        scales(v);
        histograms(v);
        counts();
        Check.end();
    }

    /** OUTPUTS 0 and 1 of 32 by 32 with noise, 2 of 30 by 32. */
    private static VideoSuite pictures() {
        VideoSuite c = new VideoSuite();
        c.setting(17, 1);
        c.open();
        c.paint(2, 0, 100, 5);
        c.encode();
        c.paint(3, 1, 0, 0);
        c.paint(2, 20, 10, 6);
        c.encode();
        Streams s = new Streams();
        for (int k = 0; k < c.take(); k++) {
            byte[] unit = new byte[c.unit(k, 2)];
            for (int i = 0; i < unit.length; i++) {
                unit[i] = (byte) c.unitByte(k, i);
            }
            s.add(unit);
        }
        c.decode(400);
        Streams t = new Streams().size(2, 2);
        t.crop = new int[] {0, 1, 0, 0};
        t.sets().add(t.head(5, 2).raw(1, 1, 1, 2, 2, 2, 3, 3, 3, 4, 4, 4));
        byte[] more = t.bytes.toByteArray();
        s.bytes.write(more, 0, more.length);
        VideoSuite v = s.object();
        v.decode(400);
        Check.due("three OUTPUTS", v.flush(), 3);
        return v;
    }

    private static void squares(VideoSuite v) {
        long sum = 0;
        for (int i = 0; i < 1024; i++) {
            long d = v.sample(0, 0, i % 32, i / 32) - v.sample(1, 0, i % 32, i / 32);
            sum += d * d;
        }
        Check.due("P38 squares", v.quality(0, 1, 0, -5, 99), sum);
        Check.due("P38 squares", v.quality(1, 0, 0, 0, 0), sum);
        Check.due("P38 squares of the same", v.quality(1, 1, 0, 0, 0), 0);
    }

    private static BigInteger[] index(VideoSuite v, int k, int j, int x, int y) {
        long a = 0;
        long b = 0;
        long p = 0;
        long q = 0;
        long r = 0;
        for (int i = 0; i < 64; i++) {
            long s = v.sample(k, 0, x + i % 8, y + i / 8);
            long t = v.sample(j, 0, x + i % 8, y + i / 8);
            a += s;
            b += t;
            p += s * s;
            q += t * t;
            r += s * t;
        }
        BigInteger upper = BigInteger.valueOf(2 * a * b + 416)
                .multiply(BigInteger.valueOf(2 * (64 * r - a * b) + 239804));
        BigInteger lower = BigInteger.valueOf(a * a + b * b + 416)
                .multiply(BigInteger.valueOf(64 * p - a * a + 64 * q - b * b + 239804));
        BigInteger g = upper.gcd(lower);
        return new BigInteger[] {upper.divide(g), lower.divide(g)};
    }

    private static void indexes(VideoSuite v) {
        int negative = 0;
        for (int i = 0; i < 49; i++) {
            int x = i % 7 * 4;
            int y = i / 7 * 4;
            BigInteger[] due = index(v, 0, 1, x, y);
            Check.due("P38 upper at " + x + ", " + y, v.quality(0, 1, 1, x, y), due[0].longValueExact());
            Check.due("P38 lower at " + x + ", " + y, v.quality(0, 1, 2, x, y), due[1].longValueExact());
            negative += due[0].signum() < 0 ? 1 : 0;
        }
        Check.due("P38 the same", v.quality(0, 0, 1, 4, 8), 1);
        Check.due("P38 the same", v.quality(0, 0, 2, 4, 8), 1);
        Check.due("some are below 0", negative > 0 ? 1 : 0, 1);
    }

    private static void qualityWrong(VideoSuite v) {
        Check.bad("P38 what 3", () -> v.quality(0, 1, 3, 0, 0));
        Check.bad("P38 what -1", () -> v.quality(0, 1, -1, 0, 0));
        Check.bad("P38 bad before missing", () -> v.quality(9, 9, 3, 0, 0));
        Check.missing("P38 OUTPUT 3", () -> v.quality(3, 0, 0, 0, 0));
        Check.missing("P38 OUTPUT 3", () -> v.quality(0, 3, 0, 0, 0));
        Check.missing("P38 OUTPUT -1", () -> v.quality(-1, 0, 0, 0, 0));
        int[][] at = {{2, 0}, {0, 2}, {28, 0}, {0, 28}, {-4, 0}, {0, -4}, {25, 24}, {1 << 30, 0}};
        for (int[] p : at) {
            Check.missing("P38 at " + p[0] + ", " + p[1], () -> v.quality(0, 1, 1, p[0], p[1]));
        }
        Check.refused("P38 of other sizes", () -> v.quality(0, 2, 0, 0, 0));
        Check.refused("P38 of other sizes", () -> v.quality(2, 0, 2, 20, 0));
        Check.refused("P38 x, y by the first one", () -> v.quality(0, 2, 1, 24, 24));
        Check.missing("P38 x, y before REFUSED", () -> v.quality(2, 0, 1, 24, 24));
    }

    private static long mean(VideoSuite v, int k, int p, int wide, int high, int[] to, int x, int y) {
        long sum = 0;
        for (int j = y * high; j < (y + 1) * high; j++) {
            for (int i = x * wide; i < (x + 1) * wide; i++) {
                sum += v.sample(k, p, i / to[0], j / to[1]);
            }
        }
        long area = (long) wide * high;
        return (2 * sum + area) / (2 * area);
    }

    private static void scales(VideoSuite v) {
        int[][] sizes = {{1, 1}, {32, 32}, {16, 8}, {3, 5}, {7, 31}, {64, 33}, {256, 256}, {20, 1}};
        for (int[] to : sizes) {
            for (int n = 0; n < 6; n++) {
                int p = n % 3;
                int x = to[0] * n / 6;
                int y = to[1] * (5 - n) / 6;
                Check.due("P39 scale to " + to[0] + " by " + to[1], v.scale(0, p, to[0], to[1], x, y),
                        mean(v, 0, p, p == 0 ? 32 : 16, p == 0 ? 32 : 16, to, x, y));
            }
            Check.due("P39 of 30 by 32", v.scale(2, 0, to[0], to[1], to[0] - 1, to[1] - 1),
                    mean(v, 2, 0, 30, 32, to, to[0] - 1, to[1] - 1));
        }
        Check.due("P39 halves up", v.scale(2, 1, 1, 1, 0, 0), (1 * 64 + 2 * 56 + 3 * 64 + 4 * 56 + 120) / 240);
        int[][] bad = {{0, 1, 0, 0}, {1, 0, 0, 0}, {257, 1, 0, 0}, {1, 257, 0, 0}, {4, 4, 4, 0}, {4, 4, 0, 4},
            {4, 4, -1, 0}, {4, 4, 0, -1}};
        for (int[] b : bad) {
            Check.bad("P39 bad", () -> v.scale(0, 0, b[0], b[1], b[2], b[3]));
            Check.bad("P39 bad before missing", () -> v.scale(9, 9, b[0], b[1], b[2], b[3]));
        }
        Check.missing("P39 plane 3", () -> v.scale(0, 3, 1, 1, 0, 0));
        Check.missing("P39 plane -1", () -> v.scale(0, -1, 1, 1, 0, 0));
        Check.missing("P39 OUTPUT 3", () -> v.scale(3, 0, 1, 1, 0, 0));
        Check.missing("P39 OUTPUT -1", () -> v.scale(-1, 0, 1, 1, 0, 0));
    }

    private static void histograms(VideoSuite v) {
        for (int p = 0; p < 3; p++) {
            int[] n = new int[256];
            int w = p == 0 ? 32 : 16;
            for (int i = 0; i < w * w; i++) {
                n[v.sample(0, p, i % w, i / w)]++;
            }
            for (int x = 0; x < 256; x += 5) {
                Check.due("P40 plane " + p + " value " + x, v.histogram(0, p, x), n[x]);
            }
        }
        Check.due("P40 of 30 by 32", v.histogram(2, 0, 2), 14 * 16);
        Check.due("P40 chroma of 15 by 16", v.histogram(2, 2, 4), 7 * 8);
        Check.due("P40 -1", v.histogram(0, 0, -1), 0);
        Check.due("P40 256", v.histogram(0, 0, 256), 0);
        Check.missing("P40 plane 3", () -> v.histogram(0, 3, 0));
        Check.missing("P40 plane -1", () -> v.histogram(0, -1, 0));
        Check.missing("P40 OUTPUT 3", () -> v.histogram(3, 0, 0));
        Check.missing("P40 OUTPUT -1", () -> v.histogram(-1, 0, 0));
    }

    private static void counts() {
        Streams s = new Streams().size(2, 1);
        s.refs = 2;
        s.sets().add(s.head(5, 2).raw(1, 1, 1, 2, 2, 2)).add(s.head(1, 2).at(1, 2).raw(3, 3, 3));
        s.add(s.head(1, 2).at(2, 3).ref(0).raw(3, 3, 3)).add(Streams.bytes(0x67));
        VideoSuite v = s.object();
        v.feed(1, 2, 3, 4, 5);
        v.decode(5);
        int[] due = {20, 6, 5, 0, 0, 2, 1, 3};
        for (int what = 0; what < due.length; what++) {
            Check.due("P41 count(" + what + ")", v.count(what), due[what]);
        }
        v.decode(1);
        int[] then = {20, 6, 6, 0, 1, 3, 0, 3, 0};
        for (int what = 0; what < then.length; what++) {
            Check.due("P41 count(" + what + ") then", v.count(what), then[what]);
        }
        v.flush();
        Check.due("P41 OUTPUTS", v.count(3), 3);
        Check.due("P41 PICTURES in the STORE", v.count(5), 2);
        Check.due("P41 REPAIRED", v.count(14), 2);
        Check.due("P41 BOXES", v.count(12), 0);
        v.mux();
        v.demux();
        Check.due("P41 BOXES", v.count(12), 7);
        Check.due("P41 count(15)", v.count(15), -1);
        Check.due("P41 count(-1)", v.count(-1), -1);
        Check.due("P41 count of the least", v.count(Integer.MIN_VALUE), -1);
        v.setting(9, 12345);
        v.setting(6, 2);
        v.setting(7, 2);
        v.setting(8, 1);
        v.open();
        Check.due("P41 CHANCE", v.count(13), 12345);
        v.encode();
        v.encode();
        Check.due("P41 PICTURES coded", v.count(10), 1);
        Check.due("P41 those that wait", v.count(11), 1);
        Check.due("P41 CHANCE goes on", v.count(13) != 12345 ? 1 : 0, 1);
        Check.due("P41 bytes MADE", v.count(9) > 20 ? 1 : 0, 1);
    }
}
