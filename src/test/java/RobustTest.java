import java.util.Random;

/** Broken streams and wrong arguments: nothing but the exceptions of the document is thrown. */
public final class RobustTest {
    private static Random chance;
    /** How many calls an object may still answer; 512 in all. */
    private static int left;

    public static void main(String[] args) {
        for (int seed = 0; seed < 60; seed++) {
            chance = new Random(seed);
            brokenStream(seed);
        }
        for (int seed = 0; seed < 200; seed++) {
            chance = new Random(seed);
            brokenFile();
            randomUnits();
        }
        extremes();
        Check.end();
    }

    private static int draw(int from, int to) {
        return from + chance.nextInt(to - from + 1);
    }

    private static VideoSuite coded(int seed) {
        VideoSuite v = new VideoSuite();
        int many = draw(0, 2);
        int[] set = {0, draw(1, 3), 1, draw(1, 3), 2, seed % 2, 3, draw(12, 51), 4, draw(12, 51), 5, draw(12, 51), 6, many,
            7, draw(2, 3), 8, draw(0, 1), 9, chance.nextInt(), 10, draw(0, 2), 11, draw(0, 4), 12, draw(0, 4),
            13, draw(0, 2), 18, many > 0 ? 0 : draw(0, 2), 19, draw(0, 1), 20, draw(0, 1), 21, 2 * draw(0, 1),
            22, draw(0, 1), 23, draw(-12, 12)};
        for (int i = 0; i < set.length; i += 2) {
            v.setting(set[i], set[i + 1]);
        }
        v.open();
        for (int i = draw(2, 5); i > 0; i--) {
            v.paint(2, 40, 20, seed + i);
            v.encode();
        }
        v.finish();
        v.take();
        return v;
    }

    private static void brokenStream(int seed) {
        for (int round = 0; round < 4; round++) {
            VideoSuite v = coded(seed);
            left = 300;
            v.repair(draw(0, 3));
            for (int i = draw(1, 5); i > 0; i--) {
                int k = draw(0, v.count(1) - 1);
                v.flip(k, draw(0, Math.min(8 * v.unit(k, 2) - 1, draw(0, 1) == 0 ? 60 : 100000)));
            }
            if (round == 2) {
                v.lose(v.count(1) - 1);
            }
            while (left > 0 && Check.told(() -> v.decode(draw(1, 3))) > 0) {
                for (int i = 0; i < 6; i++) {
                    ask(v);
                }
                if (draw(0, 4) == 0) {
                    emptyWhereMissing(v);
                }
            }
            Check.told(() -> v.decode(400));
            v.flush();
            outputs(v);
        }
    }

    private static void outputs(VideoSuite v) {
        long missing = 0;
        for (int k = 0; k < v.count(3) && k < 9; k++) {
            missing += v.picture(k, 6);
            Check.due("trusted ones lack nothing", v.picture(k, 5) == 1 && v.picture(k, 6) > 0 ? 1 : 0, 0);
        }
        Check.due("REPAIRED ones are counted", missing <= v.count(14) ? 1 : 0, 1);
        for (int i = 0; i < v.count(4) && i < 9; i++) {
            int kind = v.fault(i, 2);
            Check.due("a FAULT's kind", kind >= 1 && kind <= 4 ? 1 : 0, 1);
            Check.due("a FAULT's place", v.fault(i, 1) >= 0 ? 1 : 0, 1);
        }
    }

    private static Check.Call kind(VideoSuite v, int mb) {
        return () -> v.block(mb, 0);
    }

    /** A BLOCK that isn't there, also one in which a FAULT was met, tells nothing. */
    private static void emptyWhereMissing(VideoSuite v) {
        for (int mb = 0; mb < 9 && left > 100 && v.count(6) == 1; mb++) {
            if (Check.told(kind(v, mb)) != -1) {
                continue;
            }
            left -= 86;
            int[] due = {-1, -1, 0, 0, 0, 0, -1};
            for (int what = 0; what < 7; what++) {
                Check.due("P18 missing, what " + what, v.block(mb, what), due[what]);
            }
            for (int b = 0; b < 16; b++) {
                Check.due("P18 missing, its mode", v.block(mb, 8 + b), 2);
                Check.due("P19 missing", v.vector(mb, b, b % 2, 2), -1);
                Check.due("P19 missing", v.vector(mb, b, b % 2, b / 8), 0);
            }
            for (int b = 0; b < 27; b++) {
                Check.due("P20 missing", v.level(mb, b, b % 16), 0);
            }
        }
    }

    private static void ask(VideoSuite v) {
        left--;
        int a = draw(-1, 33);
        int b = draw(-1, 27);
        int c = draw(-1, 16);
        int d = draw(-1, 3);
        switch (draw(0, 13)) {
            case 0 -> Check.told(() -> v.picture(b, c));
            case 1 -> Check.told(() -> v.sample(d, d, a, b));
            case 2 -> Check.told(() -> v.set(d, d, c));
            case 3 -> Check.told(() -> v.slice(b));
            case 4 -> Check.told(() -> v.block(a, b));
            case 5 -> Check.told(() -> v.vector(a, c, d, d));
            case 6 -> Check.told(() -> v.level(a, b, c));
            case 7 -> Check.told(() -> v.edge(a, c, d));
            case 8 -> Check.told(() -> v.stored(d, c));
            case 9 -> Check.told(() -> v.entry(d, c));
            case 10 -> Check.told(() -> v.fault(b, d));
            case 11 -> Check.told(() -> v.element(a * 150, d));
            case 12 -> Check.told(() -> v.quality(d, d, d, 4 * c, 4 * d));
            default -> Check.told(() -> v.unit(b, c));
        }
    }

    private static void brokenFile() {
        VideoSuite v = coded(chance.nextInt(1000));
        v.mux();
        int n = v.count(0);
        v.end(draw(0, 3) == 0 ? draw(0, n) : n);
        for (int i = draw(0, 2); i > 0; i--) {
            Check.told(() -> v.feed(chance.nextInt(), chance.nextInt() & 0x3ff, 0, 8, chance.nextInt()));
        }
        Check.told(v::demux);
        Check.due("the TAPE is empty", v.count(0), 0);
        for (int k = -1; k < 62; k += 3) {
            int box = k;
            Check.told(() -> v.box(box, draw(-1, 4)));
        }
    }

    private static void randomUnits() {
        VideoSuite v = new VideoSuite();
        Streams s = new Streams().size(draw(1, 3), draw(1, 3));
        s.coding = draw(0, 1);
        s.gaps = draw(0, 1);
        s.refs = draw(0, 4);
        s.weighted = draw(0, 1);
        s.both = draw(0, 2);
        s.own = draw(0, 1);
        s.kind = draw(0, 2);
        s.sets();
        for (int i = 0; i < 20; i++) {
            Streams.Head h = i == 0 ? s.head(5, 2) : s.head(1, draw(0, 1)).at(i % 16, 2 * i % 16);
            if (i > 0 && (h.bits().length() & 1) == 0 && s.weighted == 1) {
                h.weights = new int[] {1, 2, 3, 4, 5, 6};
            }
            Bits d = h.bits();
            for (int k = draw(0, 200); k > 0; k--) {
                d.u(draw(1, 8), chance.nextInt(256));
            }
            s.add(h.unit(d));
        }
        s.give(v);
        while (Check.told(() -> v.decode(draw(1, 4))) > 0) {
            ask(v);
        }
        v.flush();
        ask(v);
    }

    private static void extremes() {
        int[] values = {Integer.MIN_VALUE, -1, 0, 1, Integer.MAX_VALUE};
        VideoSuite v = new VideoSuite();
        v.open();
        v.encode();
        v.take();
        v.decode(3);
        v.flush();
        for (int a : values) {
            for (int b : values) {
                Check.told(() -> v.paint(a, b, a, b));
                Check.told(() -> v.flip(a, b));
                Check.told(() -> v.unit(a, b));
                Check.told(() -> v.unitByte(a, b));
                Check.told(() -> v.picture(a, b));
                Check.told(() -> v.sample(0, 0, a, b));
                Check.told(() -> v.sum(a, b));
                Check.told(() -> v.set(0, a, b));
                Check.told(() -> v.block(a, b));
                Check.told(() -> v.vector(a, b, a, b));
                Check.told(() -> v.level(a, b, b));
                Check.told(() -> v.edge(a, b, a));
                Check.told(() -> v.quality(0, 0, 1, a, b));
                Check.told(() -> v.scale(0, 0, a, a, b, b));
                Check.told(() -> v.buffer(a, b));
                Check.told(() -> v.setting(a, b));
            }
        }
    }
}
