import java.util.function.Supplier;

/** Promises 26 to 33: SETTINGS, OPEN, INPUT, PICTURES coded and taken. */
public final class CoderTest {
    public static void main(String[] args) {
        settings();
        clashes();
        setsMade();
        setsOfKinds();
        paintFlat();
        paintSlope();
        paintNoise();
        paintMoved();
        paintSquare();
        paintRefused();
        encodeRefused();
        order();
        periods();
        flatPicture();
        rawPicture();
        budget();
        roundTrips();
        directGone();
        limits();
        taken();
        codedTold();
        Check.end();
    }

    private static void settings() {
        VideoSuite v = new VideoSuite();
        int[] least = {1, 1, 0, 12, 12, 12, 0, 1, 0, 0, 0, 0, 0, 0, -6, -6, 0, 0, 0, 0, 0, 0, 0, -12};
        int[] most = {8, 8, 1, 51, 51, 51, 2, 3, 1, 0, 4, 32, 30, 2, 6, 6, 1000000, 1, 2, 1, 1, 2, 1, 12};
        for (int k = 0; k < 24; k++) {
            int what = k;
            if (what == 9) {
                continue;
            }
            v.setting(what, least[what]);
            Check.due("P26 least of " + what, v.setting(what, most[what]), least[what]);
            Check.bad("P26 below least of " + what, () -> v.setting(what, least[what] - 1));
            Check.bad("P26 above most of " + what, () -> v.setting(what, most[what] + 1));
            Check.due("P26 it stays, " + what, v.setting(what, least[what]), most[what]);
        }
        v.setting(9, Integer.MIN_VALUE);
        Check.due("P26 any seed", v.setting(9, Integer.MAX_VALUE), Integer.MIN_VALUE);
        Check.due("P26 any seed", v.setting(9, 0), Integer.MAX_VALUE);
        Check.bad("P26 what 24", () -> v.setting(24, 0));
        Check.bad("P26 what -1", () -> v.setting(-1, 0));
    }

    private static void clashes() {
        VideoSuite v = new VideoSuite();
        Check.due("P27 open", v.open(), -1);
        v.setting(0, 8);
        v.setting(1, 5);
        v.setting(21, 1);
        Check.due("P27 WIDTH times HEIGHT", v.open(), 1);
        Check.due("P27 nothing is done", v.count(9), 4 + 8 + 4 + 4);
        v.encode();
        Check.due("P27 the earlier OPEN holds", v.count(10), 1);
        v.setting(1, 4);
        v.setting(6, 1);
        Check.due("P27 MANY with REFS 1", v.open(), 6);
        v.setting(7, 2);
        Check.due("P27 both 1", v.open(), 21);
        v.setting(18, 1);
        Check.due("P27 MANY with kind 1", v.open(), 6);
        v.setting(18, 2);
        Check.due("P27 MANY with kind 2", v.open(), 6);
        v.setting(6, 0);
        Check.due("P27 both 1", v.open(), 21);
        v.setting(21, 2);
        v.setting(9, -5);
        Check.due("P27 open", v.open(), -1);
        Check.due("P27 nothing coded", v.count(10), 0);
        Check.due("P41 CHANCE is seed", v.count(13), -5);
        Check.missing("P33 none coded since", () -> v.coded(0, 0));
    }

    private static void made(String what, VideoSuite v, int... due) {
        Check.due(what + " count(9)", v.count(9), due.length);
        for (int i = 0; i < due.length; i++) {
            int k = i;
            Check.answers(what + " made(" + i + ")", due[i], () -> v.made(k));
        }
        Check.missing("P31 made behind", () -> v.made(due.length));
        Check.missing("P31 made(-1)", () -> v.made(-1));
    }

    /** The bytes of UNITS behind 0 0 0 1 each. */
    private static int[] bytes(byte[]... units) {
        Streams s = new Streams();
        for (byte[] u : units) {
            s.add(u);
        }
        byte[] all = s.bytes.toByteArray();
        int[] out = new int[all.length];
        for (int i = 0; i < out.length; i++) {
            out[i] = all[i] & 255;
        }
        return out;
    }

    private static void setsMade() {
        VideoSuite v = new VideoSuite();
        v.open();
        Streams s = new Streams().size(2, 2);
        s.frameBits = 8;
        s.lowBits = 8;
        s.step = 28;
        made("P27 the SETS", v, bytes(s.sequence(0), withStep(s, 28)));
    }

    private static byte[] withStep(Streams s, int step) {
        s.step = step;
        return s.parameters(0, 0);
    }

    private static void setsOfKinds() {
        VideoSuite v = new VideoSuite();
        int[][] set = {{0, 8}, {1, 3}, {2, 1}, {3, 51}, {7, 3}, {18, 1}, {19, 1}, {20, 1}, {21, 2}, {23, -12}};
        for (int[] k : set) {
            v.setting(k[0], k[1]);
        }
        v.open();
        Streams s = new Streams().size(8, 3);
        s.frameBits = 8;
        s.kind = 1;
        s.turns = new int[] {2};
        s.refs = 3;
        s.coding = 1;
        s.n0 = 3;
        s.weighted = 1;
        s.both = 2;
        s.apartStep = -12;
        s.own = 1;
        made("P27 the SETS", v, bytes(s.sequence(0), withStep(s, 51)));
        v.setting(18, 2);
        v.open();
        s.kind = 2;
        made("P27 the SETS", v, bytes(s.sequence(0), withStep(s, 51)));
        v.take();
        v.decode(2);
        Check.due("P27 they are whole", v.count(4), 0);
        Check.due("P27 WIDTH", v.set(0, 0, 0), 8);
        Check.due("P27 STEP", v.set(1, 0, 7), 25);
    }

    private static VideoSuite open(int... settings) {
        VideoSuite v = new VideoSuite();
        for (int i = 0; i < settings.length; i += 2) {
            v.setting(settings[i], settings[i + 1]);
        }
        v.open();
        return v;
    }

    /** The INPUT as RAW tells it, of objects that are made and painted so. */
    private static int[][] input(Supplier<VideoSuite> make) {
        return Planes.of(() -> {
            VideoSuite v = make.get();
            v.encode();
            v.take();
            v.decode(400);
            v.flush();
            return v;
        }, 0, 32, 16);
    }

    /** An object that codes RAW ones alone, painted so: how, a, b, c again and again. */
    private static VideoSuite painted(int... calls) {
        VideoSuite v = open(RAW);
        for (int i = 0; i < calls.length; i += 4) {
            v.paint(calls[i], calls[i + 1], calls[i + 2], calls[i + 3]);
        }
        return v;
    }

    private static void input(String what, int[][] due, int... calls) {
        same(what, input(() -> painted(calls)), due);
    }

    private static int sum(int[] row) {
        int h = 0;
        for (int x : row) {
            h = 31 * h + x;
        }
        return h;
    }

    private static void same(String what, int[][] got, int[][] due) {
        for (int p = 0; p < 3; p++) {
            for (int i = 0; i < due[p].length; i++) {
                if (got[p][i] != due[p][i]) {
                    Check.due(what + " plane " + p + " sample " + i, got[p][i], due[p][i]);
                    return;
                }
            }
        }
    }

    private static final int[] RAW = {17, 1, 0, 2, 1, 1};

    private static int[][] planes(int wide, int high) {
        return new int[][] {new int[wide * high], new int[wide * high / 4], new int[wide * high / 4]};
    }

    private static void paintFlat() {
        int[][] due = planes(32, 16);
        for (int[] row : due) {
            java.util.Arrays.fill(row, 128);
        }
        input("P27 INPUT is 128", due);
        java.util.Arrays.fill(due[0], 255);
        java.util.Arrays.fill(due[1], 1);
        java.util.Arrays.fill(due[2], 0);
        VideoSuite w = open(RAW);
        Check.due("P28 how 0", w.paint(0, -1, 257, 512), sum(due[0]));
        input("P28 how 0", due, 0, -1, 257, 512);
        w.open();
        java.util.Arrays.fill(due[0], 128);
        Check.due("P27 INPUT is 128 again", w.paint(4, 100, 100, 3), sum(due[0]));
    }

    private static void paintSlope() {
        int[][] due = planes(32, 16);
        for (int p = 0; p < 3; p++) {
            int w = p == 0 ? 32 : 16;
            for (int i = 0; i < due[p].length; i++) {
                int unit = p == 0 ? 1 : 2;
                due[p][i] = (7 * unit * (i % w) - 5 * unit * (i / w) + 300 & 255) + 40 * p & 255;
            }
        }
        Check.due("P28 how 1", open(RAW).paint(1, 7, -5, 300), sum(due[0]));
        input("P28 how 1", due, 1, 7, -5, 300);
    }

    private static void noise(int[][] due, int a, int b, int c) {
        int s = c;
        for (int[] row : due) {
            for (int i = 0; i < row.length; i++) {
                s = 1664525 * s + 1013904223;
                int x = row[i] + (s >>> 24) % ((a & 255) == 0 ? 256 : a & 255) - b;
                row[i] = x < 0 ? 0 : x > 255 ? 255 : x;
            }
        }
    }

    private static void paintNoise() {
        VideoSuite v = open(RAW);
        int[][] due = planes(32, 16);
        for (int[] row : due) {
            java.util.Arrays.fill(row, 128);
        }
        noise(due, 256, 100, -7);
        Check.due("P28 how 2, 0 as 256", v.paint(2, 256, 100, -7), sum(due[0]));
        input("P28 how 2, 0 as 256", due, 2, 256, 100, -7);
        noise(due, 300, -250, 9);
        Check.due("P28 how 2", v.paint(2, 300, -250, 9), sum(due[0]));
        input("P28 how 2", due, 2, 256, 100, -7, 2, 300, -250, 9);
    }

    private static int[] moved(int[] row, int w, int a, int b) {
        int[] out = new int[row.length];
        int h = row.length / w;
        for (int i = 0; i < row.length; i++) {
            long x = (long) (i % w) - a;
            long y = (long) (i / w) - b;
            x = x < 0 ? 0 : x >= w ? w - 1 : x;
            y = y < 0 ? 0 : y >= h ? h - 1 : y;
            out[i] = row[(int) (y * w + x)];
        }
        return out;
    }

    private static void paintMoved() {
        int[][] by = {{3, -2}, {-5, 1}, {Integer.MIN_VALUE, 0}, {0, Integer.MIN_VALUE}, {100, 100}, {0, 0}};
        int[][] start = input(() -> painted(1, 7, 3, 1));
        for (int[] k : by) {
            int[][] due = {moved(start[0], 32, k[0], k[1]), moved(start[1], 16, k[0] / 2, k[1] / 2),
                moved(start[2], 16, k[0] / 2, k[1] / 2)};
            Check.due("P28 how 3", painted(1, 7, 3, 1).paint(3, k[0], k[1], 5), sum(due[0]));
            input("P28 how 3 by " + k[0] + ", " + k[1], due, 1, 7, 3, 1, 3, k[0], k[1], 5);
        }
    }

    private static void paintSquare() {
        int[][] due = planes(32, 16);
        java.util.Arrays.fill(due[0], 1);
        java.util.Arrays.fill(due[1], 2);
        java.util.Arrays.fill(due[2], 3);
        for (int y = 11; y < 16; y++) {
            for (int x = 27; x < 32; x++) {
                due[0][32 * y + x] = 200;
            }
        }
        Check.due("P28 how 4", painted(0, 1, 2, 3).paint(4, 27 + 128, 11 - 128, 200 + 256), sum(due[0]));
        input("P28 how 4", due, 0, 1, 2, 3, 4, 27 + 128, 11 - 128, 200 + 256);
    }

    private static void paintRefused() {
        VideoSuite v = new VideoSuite();
        Check.bad("P28 how 5, before REFUSED", () -> v.paint(5, 0, 0, 0));
        Check.bad("P28 how -1", () -> v.paint(-1, 0, 0, 0));
        Check.refused("P28 not OPEN yet", () -> v.paint(0, 0, 0, 0));
        Check.refused("P29 not OPEN yet", v::encode);
        Check.refused("P30 not OPEN yet", v::finish);
        v.setting(21, 1);
        v.open();
        Check.refused("P28 a CLASH is no OPEN", () -> v.paint(0, 0, 0, 0));
        Check.due("P32 nothing MADE", v.take(), 0);
    }

    private static void encodeRefused() {
        VideoSuite v = open(0, 1, 1, 1);
        for (int i = 0; i < 60; i++) {
            Check.due("P29 encode", v.encode(), i + 1);
        }
        Check.refused("P29 60 since OPEN", v::encode);
        Check.due("P29 nothing changed", v.count(10), 60);
        v.open();
        Check.due("P29 OPEN anew", v.encode(), 1);
        VideoSuite w = open(0, 8, 1, 4, 3, 51, 4, 51, 10, 0);
        for (int i = 0; i < 16; i++) {
            w.encode();
        }
        Check.refused("P29 500 BLOCKS", w::encode);
        Check.due("P30 finish still", w.finish(), 16);
        w.open();
        Check.refused("P29 500 BLOCKS, also before OPEN", w::encode);
        VideoSuite u = open(0, 8, 1, 4, 17, 1);
        for (int i = 0; i < 5; i++) {
            u.encode();
        }
        Check.due("P29 60000 bytes", u.count(9) >= 60000 ? 1 : 0, 1);
        Check.refused("P29 60000 bytes", u::encode);
        VideoSuite t = open(0, 8, 1, 4, 11, 1, 3, 51, 4, 51, 10, 0);
        for (int i = 0; i < 12; i++) {
            t.encode();
        }
        Check.refused("P29 380 UNITS", t::encode);
        Check.due("P32 386 UNITS are taken", t.take(), 386);
    }

    private static void facts(String what, VideoSuite v, int fact, int... due) {
        Check.due(what + " count(10)", v.count(10), due.length);
        for (int k = 0; k < due.length; k++) {
            int n = k;
            Check.answers(what + " coded(" + k + ", " + fact + ")", due[k], () -> v.coded(n, fact));
        }
    }

    private static void order() {
        VideoSuite v = open(0, 1, 1, 1, 6, 2, 7, 2);
        int[] due = {1, 1, 1, 4, 4, 4, 7, 7};
        int[] waits = {0, 1, 2, 0, 1, 2, 0, 1};
        for (int i = 0; i < due.length; i++) {
            Check.due("P29 encode", v.encode(), due[i]);
            Check.due("P41 waiting", v.count(11), waits[i]);
        }
        Check.due("P30 finish", v.finish(), 8);
        Check.due("P41 waiting", v.count(11), 0);
        facts("P33 sorts", v, 2, 2, 0, 1, 1, 0, 1, 1, 0);
        facts("P33 ORDERS", v, 4, 0, 6, 2, 4, 12, 8, 10, 14);
        Check.due("P30 nothing waits", v.finish(), 8);
        v.encode();
        v.encode();
        v.open();
        Check.due("P27 none waits", v.count(11), 0);
    }

    private static void periods() {
        VideoSuite v = open(0, 1, 1, 1, 6, 2, 7, 3, 12, 5);
        for (int i = 0; i < 12; i++) {
            v.encode();
        }
        v.finish();
        facts("P33 sorts", v, 2, 2, 0, 1, 1, 0, 2, 0, 1, 1, 0, 2, 0);
        facts("P33 ORDERS", v, 4, 0, 6, 2, 4, 8, 0, 6, 2, 4, 8, 0, 2);
        v.take();
        v.decode(400);
        Check.due("P29 as the decoder reads it", v.flush(), 12);
        Check.due("P24 no FAULTS", v.count(4), 0);
        Check.due("P17 own id by turns", v.count(7), 12);
        int[] ids = {0, 1, 0};
        int[] unit = {2, 7, 12};
        for (int i = 0; i < 3; i++) {
            v.anew();
            v.decode(unit[i] + 1);
            Check.due("P29 own id", v.slice(4), ids[i]);
        }
    }

    /** 128 all over: SIXTEEN of mode 2 without LEVELS, then SKIPPED ones. */
    private static void flatPicture() {
        VideoSuite v = open(0, 2, 1, 1, 7, 2);
        v.encode();
        v.encode();
        v.encode();
        Streams s = new Streams().size(2, 1);
        s.frameBits = 8;
        s.lowBits = 8;
        s.refs = 2;
        s.n0 = 2;
        byte[] seq = s.sequence(0);
        byte[] par = withStep(s, 28);
        // the second BLOCK: mode 1 costs the same as 2, and comes before
        Streams.Head h = s.head(5, 2);
        byte[] own = h.unit(h.bits().ue(3).ue(0).se(0).put("1").ue(2).ue(0).se(0).put("1"));
        h = s.head(1, 0).at(1, 2).n(1);
        h.more = 2;
        byte[] p1 = h.skipped(2);
        h = s.head(1, 0).at(2, 4);
        h.more = 2;
        made("P29 flat", v, bytes(seq, par, own, p1, h.skipped(2)));
        facts("P33 bits", v, 0, 8 * own.length, 8 * p1.length, 8 * p1.length);
        facts("P33 STEPS", v, 1, 28, 30, 30);
        facts("P33 tries", v, 3, 1, 1, 1);
        facts("P33 RESERVE", v, 6, 0, 0, 0);
        int[] grey = new int[512];
        java.util.Arrays.fill(grey, 128);
        facts("P33 sums", v, 5, sum(grey), sum(grey), sum(grey));
    }

    private static void rawPicture() {
        VideoSuite v = open(0, 1, 1, 1, 17, 1);
        v.paint(0, 9, 8, 7);
        v.encode();
        Streams s = new Streams();
        s.frameBits = 8;
        s.lowBits = 8;
        byte[] seq = s.sequence(0);
        byte[] par = withStep(s, 28);
        made("P29 RAW", v, bytes(seq, par, s.head(5, 2).raw(9, 8, 7)));
        VideoSuite w = open(0, 1, 1, 1, 17, 1, 2, 1, 8, 1);
        w.paint(0, 9, 8, 7);
        w.encode();
        Check.due("P29 nothing is drawn for RAW ones", w.count(13), 1);
        w.take();
        w.decode(400);
        w.flush();
        Check.due("P29 RAW by ARITH", w.sample(0, 0, 5, 5), 9);
        Check.due("P29 RAW by ARITH", w.block(0, 0), 2);
        Check.due("P24 no FAULTS", w.count(4), 0);
    }

    private static void budget() {
        VideoSuite v = open(0, 2, 1, 2, 3, 12, 4, 12, 16, 900);
        v.paint(2, 0, 128, 5);
        v.encode();
        int bits = v.coded(0, 0);
        int step = v.coded(0, 1);
        Check.due("P29 tries", v.coded(0, 3), step == 51 ? 8 : (step - 12) / 6 + 1);
        Check.due("P29 it fits, or STEP is 51", bits <= 900 || step == 51 ? 1 : 0, 1);
        Check.due("P29 more than one", v.coded(0, 3) > 1 ? 1 : 0, 1);
        int reserve = Math.max(0, Math.min(3600, 900 - bits));
        Check.due("P33 RESERVE", v.coded(0, 6), reserve);
        for (int i = 1; i < 8; i++) {
            v.encode();
            reserve = Math.max(0, Math.min(3600, reserve + 900 - v.coded(i, 0)));
            Check.due("P33 RESERVE", v.coded(i, 6), reserve);
        }
        // 6 more each time, 51 at most
        for (int q = 12; q < 52; q++) {
            VideoSuite m = open(0, 1, 1, 1, 3, q, 16, 1);
            m.paint(2, 0, 128, q);
            m.encode();
            Check.due("P33 STEP from " + q, m.coded(0, 1), 51);
            Check.due("P33 tries from " + q, m.coded(0, 3), 1 + (51 - q + 5) / 6);
        }
        // more than the budget, but not more than RESERVE has besides
        VideoSuite o = open(0, 1, 1, 1, 4, 40, 10, 0, 16, 1000);
        for (int i = 0; i < 6; i++) {
            o.encode();
        }
        o.paint(2, 0, 128, 5);
        o.encode();
        Check.due("P33 RESERVE before", o.coded(5, 6), 4000);
        Check.due("P33 bits above the budget", o.coded(6, 0) > 1000 && o.coded(6, 0) <= 5000 ? 1 : 0, 1);
        Check.due("P33 it fits by RESERVE: tries", o.coded(6, 3), 1);
        Check.due("P33 it fits by RESERVE: STEP", o.coded(6, 1), 40);
        Check.due("P33 RESERVE behind", o.coded(6, 6), Math.min(4000, 5000 - o.coded(6, 0)));
        // what is less than budget and RESERVE fits at once
        VideoSuite e = open(0, 1, 1, 1, 3, 12, 16, 1000000);
        e.paint(2, 0, 128, 5);
        e.encode();
        Check.due("P29 it fits at once", e.coded(0, 3), 1);
        Check.due("P29 its STEP", e.coded(0, 1), 12);
        Check.due("P33 RESERVE", e.coded(0, 6), 1000000 - e.coded(0, 0));
        VideoSuite f = open(0, 1, 1, 1, 16, 1000);
        for (int i = 0; i < 8; i++) {
            f.encode();
        }
        Check.due("P33 RESERVE", f.coded(2, 6), 3000 - f.coded(0, 0) - f.coded(1, 0) - f.coded(2, 0));
        Check.due("P33 RESERVE, four budgets at most", f.coded(7, 6), 4000);
        VideoSuite w = open(0, 2, 1, 2, 3, 50, 16, 1);
        w.paint(2, 0, 128, 5);
        w.encode();
        Check.due("P29 STEP 51 at most", w.coded(0, 1), 51);
        Check.due("P29 tries", w.coded(0, 3), 2);
        VideoSuite u = open(0, 2, 1, 2, 3, 39, 16, 1, 8, 1);
        u.paint(2, 0, 128, 5);
        u.encode();
        VideoSuite t = open(0, 2, 1, 2, 3, 51, 8, 1);
        t.paint(2, 0, 128, 5);
        t.encode();
        Check.due("P29 CHANCE as before it", u.count(13), t.count(13));
        Check.due("P29 tries", u.coded(0, 3), 3);
        Check.due("P29 the same picture", u.coded(0, 5), t.coded(0, 5));
    }

    /** What is coded is what the decoder makes of it. */
    private static void roundTrips() {
        for (int seed = 0; seed < 24; seed++) {
            int many = seed % 3;
            VideoSuite v = open(0, 1 + seed % 3, 1, 1 + seed / 3 % 2, 2, seed % 2, 3, 20 + seed, 4, 24, 5, 26, 6, many,
                    7, 2 + seed % 2, 8, seed / 4 % 2, 9, seed * 77, 10, seed % 4, 11, seed % 5, 12, seed % 4 == 3 ? 3 : 0,
                    13, seed % 3, 14, seed % 7 - 3, 15, 3 - seed % 5, 18, many > 0 ? 0 : seed / 3 % 3, 19, seed / 2 % 2,
                    20, seed / 3 % 2, 21, seed / 6 % 2 * 2, 22, seed / 5 % 2, 23, seed % 25 - 12);
            v.paint(1, 3, 2, seed * 40);
            for (int i = 0; i < 6; i++) {
                v.paint(3, 1, -1, 0);
                v.paint(2, 12, 6, seed + i);
                v.encode();
            }
            int n = v.finish();
            v.take();
            v.decode(400);
            Check.due("P29 outputs of " + seed, v.flush(), n);
            Check.due("P29 no FAULTS of " + seed, v.count(4), 0);
            for (int k = 0; k < n; k++) {
                int found = 0;
                for (int j = 0; j < n; j++) {
                    found += v.picture(j, 2) == v.coded(k, 4) && v.sum(j, 0) == v.coded(k, 5)
                            && v.picture(j, 3) == v.coded(k, 2) ? 1 : 0;
                }
                Check.due("P33 sum and ORDER of " + seed + ", " + k, found > 0 ? 1 : 0, 1);
            }
        }
    }

    /** By time DIRECT is 4 where a REFERENCE of the ANCHOR behind has gone: type 1, sub 1, and not SKIPPED. */
    private static void directGone() {
        int withoutDirect = 0;
        for (int seed = 0; seed < 60; seed++) {
            VideoSuite v = open(0, 2, 1, 1 + seed % 2, 2, seed / 2 % 2, 6, 1 + seed / 4 % 2, 7, 2 + seed / 8 % 2, 8, 1, 9, seed * 31, 22, 0,
                    13, 1);
            v.paint(2, 90, 45, seed);
            for (int i = 0; i < 17; i++) {
                v.paint(2, 60, 30, seed + i);
                v.encode();
            }
            int n = v.finish();
            v.take();
            while (v.decode(1) > 0) {
                boolean isB = v.count(7) > 0 && v.slice(1) == 1;
                for (int mb = 0; isB && mb < 2; mb++) {
                    withoutDirect += v.block(mb, 1) == 1 ? 1 : 0;
                }
            }
            Check.due("P29 outputs by time of " + seed, v.flush(), n);
            Check.due("P29 no FAULTS by time of " + seed, v.count(4), 0);
            int[] sum = new int[2 * n];
            for (int j = 0; j < n; j++) {
                sum[v.picture(j, 2) / 2] = v.sum(j, 0);
                sum[n + v.coded(j, 4) / 2] = v.coded(j, 5);
            }
            for (int k = 0; k < n; k++) {
                Check.due("P33 sum by time of " + seed + ", ORDER " + 2 * k, sum[n + k], sum[k]);
            }
        }
        Check.due("B of type 1 there were", withoutDirect > 40 ? 1 : 0, 1);
    }

    private static void limits() {
        VideoSuite v = open(0, 8, 1, 4, 17, 1, 6, 2, 7, 2);
        Streams.feed(v, Streams.bytes(0, 0, 1, 9, 9));
        v.split(0);
        for (int i = 0; i < 7; i++) {
            v.encode();
        }
        Check.due("P29 seven", v.count(10), 7);
        Check.due("P32 above 65536", v.count(9) > 65536 ? 1 : 0, 1);
        Check.refused("P32 above 65536", v::take);
        Check.due("P32 the STREAM stays", v.count(1), 1);
        VideoSuite t = open(0, 8, 1, 4, 11, 1, 3, 51, 4, 51, 5, 51, 10, 0, 6, 2, 7, 2);
        for (int i = 0; i < 10; i++) {
            t.encode();
        }
        Check.due("P32 322 UNITS", t.take(), 322);
        for (int i = 0; i < 3; i++) {
            t.encode();
        }
        Check.refused("P32 418 UNITS", t::take);
        Check.due("P32 the STREAM stays", t.count(1), 322);
    }

    private static void taken() {
        VideoSuite v = open(0, 1, 1, 1, 11, 0);
        v.encode();
        Streams.feed(v, Streams.bytes(5, 6, 7));
        int n = v.count(9);
        Check.due("P32 take", v.take(), 3);
        Check.due("P32 MADE stays", v.count(9), n);
        Check.due("P32 the TAPE stays", v.count(0), 3);
        Check.due("P32 no UNIT is decoded", v.count(2), 0);
        int at = 4;
        for (int k = 0; k < 3; k++) {
            for (int i = 0; i < v.unit(k, 2); i++) {
                Check.due("P32 unitByte(" + k + ", " + i + ")", v.unitByte(k, i), v.made(at + i));
            }
            at += v.unit(k, 2) + 4;
        }
        v.decode(400);
        v.flush();
        Check.due("P32", v.count(3), 1);
        v.take();
        Check.due("P32 the decoder is as at first", v.count(3), 0);
        Check.due("P32 the decoder is as at first", v.count(7), 0);
    }

    private static void codedTold() {
        VideoSuite v = open(0, 1, 1, 1);
        v.encode();
        Check.bad("P33 what 7", () -> v.coded(0, 7));
        Check.bad("P33 what -1", () -> v.coded(0, -1));
        Check.bad("P33 bad before missing", () -> v.coded(5, 7));
        Check.missing("P33 PICTURE 1", () -> v.coded(1, 0));
        Check.missing("P33 PICTURE -1", () -> v.coded(-1, 0));
    }
}
