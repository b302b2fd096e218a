/** Promises 9 to 15 and 18 to 23: decoding, REPAIR, OUTPUTS, BLOCKS, the STORE and lists. */
public final class DecodeTest {
    public static void main(String[] args) {
        rawPicture();
        croppedPicture();
        skippedPicture();
        vectors();
        blocksTold();
        modesAndLevels();
        edges();
        mendByGrey();
        mendByBefore();
        mendFromSides();
        mendByVector();
        mendDown();
        noEntries();
        directBySpace();
        directByTime();
        directOfOtherSize();
        newPictures();
        outOrder();
        dropAndLong();
        ops();
        marksOfMissing();
        clearingOp();
        gaps();
        gapsRefused();
        lists();
        listsOfB();
        moves();
        orders();
        weights();
        anewAndEffort();
        manyOutputs();
        Check.end();
    }

    private static VideoSuite decoded(Streams s) {
        VideoSuite v = s.object();
        v.decode(400);
        return v;
    }

    private static VideoSuite flushed(Streams s) {
        VideoSuite v = decoded(s);
        v.flush();
        return v;
    }

    private static void rawPicture() {
        Streams s = new Streams().size(2, 1).sets();
        Bits d = s.head(5, 2).bits().ue(25).align(0);
        for (int i = 0; i < 384; i++) {
            d.u(8, i & 255);
        }
        VideoSuite v = s.add(s.head(5, 2).unit(Streams.flat(d.ue(25), 200, 100, 50))).object();
        Check.bad("P11 decode(0)", () -> v.decode(0));
        Check.bad("P11 decode(401)", () -> v.decode(401));
        Check.due("P11 decode(1)", v.decode(1), 1);
        Check.due("P11 decode(400)", v.decode(400), 2);
        Check.due("P11 nothing left", v.decode(5), 0);
        Check.due("P41 under way", v.count(6), 1);
        Check.due("P41 OUTPUTS", v.count(3), 0);
        Check.missing("P13 not put out yet", () -> v.picture(0, 0));
        Check.due("P12 flush", v.flush(), 1);
        Check.due("P12 flush again", v.flush(), 1);
        Check.due("P41 not under way", v.count(6), 0);
        int[] due = {32, 16, 0, 2, 1, 1, 0};
        for (int i = 0; i < 7; i++) {
            Check.due("P13 picture(0, " + i + ")", v.picture(0, i), due[i]);
        }
        Check.bad("P13 what 7", () -> v.picture(0, 7));
        Check.bad("P13 bad before missing", () -> v.picture(1, -1));
        Check.missing("P13 OUTPUT 1", () -> v.picture(1, 0));
        Check.missing("P13 OUTPUT -1", () -> v.picture(-1, 0));
        Check.due("P14 luma", v.sample(0, 0, 3, 2), 35);
        Check.due("P14 luma", v.sample(0, 0, 15, 15), 255);
        Check.due("P14 luma of the second", v.sample(0, 0, 16, 15), 200);
        Check.due("P14 chroma", v.sample(0, 1, 1, 7), 57);
        Check.due("P14 chroma", v.sample(0, 2, 7, 0), 71);
        Check.due("P14 chroma of the second", v.sample(0, 2, 8, 0), 50);
        int[][] wrong = {{0, 3, 0, 0}, {0, -1, 0, 0}, {0, 0, 32, 0}, {0, 0, 0, 16}, {0, 1, 16, 0}, {0, 2, 0, 8},
            {0, 0, -1, 0}, {0, 0, 0, -1}, {1, 0, 0, 0}, {-1, 0, 0, 0}};
        for (int[] w : wrong) {
            Check.missing("P14 sample not there", () -> v.sample(w[0], w[1], w[2], w[3]));
        }
        int[][] planes = Planes.of(() -> flushed(s), 0, 32, 16);
        for (int p = 0; p < 3; p++) {
            Check.due("P15 sum of plane " + p, v.sum(0, p), java.util.Arrays.hashCode(planes[p])
                    - power(planes[p].length));
        }
        Check.missing("P15 plane 3", () -> v.sum(0, 3));
        Check.missing("P15 plane -1", () -> v.sum(0, -1));
        Check.missing("P15 OUTPUT 1", () -> v.sum(1, 0));
    }

    /** Arrays.hashCode begins with 1 and not with 0. */
    private static int power(int n) {
        int h = 1;
        for (int i = 0; i < n; i++) {
            h *= 31;
        }
        return h;
    }

    private static void croppedPicture() {
        Streams s = new Streams();
        s.crop = new int[] {1, 2, 3, 1};
        s.sets();
        Bits d = s.head(5, 2).bits().ue(25).align(0);
        for (int i = 0; i < 384; i++) {
            d.u(8, i < 256 ? i : i < 320 ? i - 256 : 100 + i - 320);
        }
        VideoSuite v = flushed(s.add(s.head(5, 2).unit(d)));
        Check.due("P13 width", v.picture(0, 0), 10);
        Check.due("P13 height", v.picture(0, 1), 8);
        Check.due("P14 luma", v.sample(0, 0, 0, 0), 6 * 16 + 2);
        Check.due("P14 luma", v.sample(0, 0, 9, 7), 13 * 16 + 11);
        Check.due("P14 chroma", v.sample(0, 1, 0, 0), 3 * 8 + 1);
        Check.due("P14 chroma", v.sample(0, 2, 4, 3), 100 + 6 * 8 + 5);
        Check.missing("P14 outside", () -> v.sample(0, 0, 10, 0));
        Check.missing("P14 outside", () -> v.sample(0, 1, 0, 4));
    }

    private static void skippedPicture() {
        Streams s = new Streams().size(2, 1).sets().add(s0().raw(90, 60, 30, 20, 40, 80));
        s.add(s.head(1, 0).at(1, 2).skipped(2));
        VideoSuite v = flushed(s);
        Check.due("P12 two", v.count(3), 2);
        Check.due("P15 the same", v.sum(1, 0), v.sum(0, 0));
        Check.due("P15 the same", v.sum(1, 2), v.sum(0, 2));
        Check.due("P13 sort", v.picture(1, 3), 0);
        Check.due("P13 ORDER", v.picture(1, 2), 2);
        Check.due("P18 by lists", v.block(1, 0), 3);
        Check.due("P18 SKIPPED", v.block(1, 1), -1);
        Check.due("P19 reference", v.vector(0, 0, 0, 2), 0);
        Check.due("P19 list 1", v.vector(0, 0, 1, 2), -1);
        Check.due("P21 nothing differs", v.edge(1, 0, 0), 0);
    }

    private static Streams.Head s0() {
        return new Streams().size(2, 1).head(5, 2);
    }

    /** Two BLOCKS of two parts, and their VECTORS. */
    private static void vectors() {
        Streams s = new Streams().size(2, 1).sets().add(s0().raw(10, 10, 10, 250, 20, 30));
        Streams.Head h = s.head(1, 0).at(1, 2);
        Bits d = h.bits().ue(0).ue(1).se(4).se(-8).se(-3).se(2).ue(0);
        d.ue(0).ue(2).se(0).se(0).se(64).se(0).ue(0);
        VideoSuite v = flushed(s.add(h.unit(d)));
        Check.due("P24 no FAULTS", v.count(4), 0);
        int[] x = {4, 4, 4, 4, 4, 4, 4, 4, 1, 1, 1, 1, 1, 1, 1, 1};
        int[] y = {-8, -8, -8, -8, -8, -8, -8, -8, -6, -6, -6, -6, -6, -6, -6, -6};
        for (int b = 0; b < 16; b++) {
            Check.due("P19 x of " + b, v.vector(0, b, 0, 0), x[b]);
            Check.due("P19 y of " + b, v.vector(0, b, 0, 1), y[b]);
            Check.due("P19 x of the next, " + b, v.vector(1, b, 0, 0), b / 4 % 2 == 0 ? 4 : 68);
            Check.due("P19 y of the next, " + b, v.vector(1, b, 0, 1), -8);
        }
        Check.due("P14 moved by one sample", v.sample(1, 0, 3, 0), 10);
        Check.due("P14 from the next BLOCK", v.sample(1, 0, 15, 0) > 120 ? 1 : 0, 1);
        Check.bad("P19 piece 16", () -> v.vector(0, 16, 0, 0));
        Check.bad("P19 list 2", () -> v.vector(0, 0, 2, 0));
        Check.bad("P19 what 3", () -> v.vector(0, 0, 0, 3));
        Check.bad("P19 what -1", () -> v.vector(0, 0, 0, -1));
        Check.bad("P19 bad before missing", () -> v.vector(9, -1, 0, 0));
        Check.missing("P19 BLOCK 2", () -> v.vector(2, 0, 0, 0));
        Check.missing("P19 BLOCK -1", () -> v.vector(-1, 0, 0, 0));
        Streams t = new Streams().size(2, 1).sets().add(s0().raw(1, 1, 1, 2, 2, 2));
        h = t.head(1, 0).at(1, 2);
        int at = h.bits().length();
        t.add(h.unit(h.bits().ue(0).ue(0).se(2047).se(0).ue(0).ue(0).ue(0).se(1).se(0).ue(0)));
        VideoSuite w = decoded(t);
        Check.due("P24 a VECTOR of 2048", w.fault(0, 2), 2);
        Check.due("P24 at x", w.fault(0, 1), at + 1 + 1 + 23 + 1 + 1 + 1 + 1);
        Check.due("P19 the one before is whole", w.vector(0, 0, 0, 0), 2047);
        Check.due("P18 the one that failed isn't there", w.block(1, 0), -1);
        Check.due("P19 it has no VECTOR", w.vector(1, 0, 0, 2), -1);
    }

    private static void blocksTold() {
        Streams s = new Streams().size(2, 2);
        s.own = 0;
        s.sets();
        Streams.Head h = s.head(5, 2);
        h.more = -6;
        Bits d = h.bits().ue(25);
        Streams.flat(d, 5, 6, 7).ue(3).ue(1).se(4).put("000011").put("");
        VideoSuite v = s.add(h.unit(d)).object();
        v.decode(400);
        Check.due("P24 no FAULTS", v.count(4), 0);
        int[][] due = {{2, 25, 0, 0, 0, 0, 0}, {1, 3, 24, 0, 0, 1, 0}, {-1, -1, 0, 0, 0, 0, -1}};
        for (int mb = 0; mb < 3; mb++) {
            for (int what = 0; what < 7; what++) {
                Check.due("P18 block(" + mb + ", " + what + ")", v.block(mb, what), due[mb][what]);
            }
            for (int b = 0; b < 16; b++) {
                Check.due("P18 mode", v.block(mb, 8 + b), 2);
            }
        }
        Check.due("P19 no reference", v.vector(1, 3, 0, 2), -1);
        Check.due("P19 no reference", v.vector(2, 3, 1, 2), -1);
        Check.bad("P18 what 7", () -> v.block(0, 7));
        Check.bad("P18 what 24", () -> v.block(0, 24));
        Check.bad("P18 what -1", () -> v.block(0, -1));
        Check.bad("P18 bad before missing", () -> v.block(9, 7));
        Check.missing("P18 BLOCK 4", () -> v.block(4, 0));
        Check.missing("P18 BLOCK -1", () -> v.block(-1, 0));
        v.flush();
        Check.due("P18 REPAIRED", v.block(2, 0), 4);
        Check.due("P18 REPAIRED has no type", v.block(2, 1), -1);
        Check.due("P18 REPAIRED is in no SLICE", v.block(3, 6), -1);
        Check.due("P13 REPAIRED", v.picture(0, 6), 2);
        Check.due("P13 not trusted", v.picture(0, 5), 0);
        Check.due("P41 REPAIRED", v.count(14), 2);
        Check.due("P14 SIXTEEN by the left one", v.sample(0, 0, 20, 4), 5);
        Check.due("P14 colours' mode 1", v.sample(0, 2, 9, 4), 7);
        v.anew();
        Check.missing("P18 none", () -> v.block(0, 0));
        Check.missing("P19 none", () -> v.vector(0, 0, 0, 0));
        Check.missing("P20 none", () -> v.level(0, 0, 0));
    }

    /** One FOUR with LEVELS, and one SIXTEEN. */
    private static void modesAndLevels() {
        Streams s = new Streams().size(2, 1).sets();
        Streams.Head h = s.head(5, 2);
        h.off(1, 0, 0);
        Bits d = h.bits().ue(0);
        int[] modes = {2, 1, 0, 2, 1, 1, 2, 8, 0, 3, 7, 2, 2, 2, 2, 2};
        int[] guess = {2, 2, 2, 0, 2, 2, 1, 1, 2, 0, 2, 3, 2, 2, 2, 2};
        for (int b = 0; b < 16; b++) {
            if (modes[b] == guess[b]) {
                d.u(1, 1);
            } else {
                d.u(1, 0).u(3, modes[b] < guess[b] ? modes[b] : modes[b] - 1);
            }
        }
        // code 29 of FOUR: the pattern 1
        d.ue(0).ue(29).se(-2);
        // piece 0: TOTAL 2, ONES 1: the highest -1, then 3; one zero between
        d.put("000100").u(1, 1).put("001").put("110").put("0");
        // pieces 1 and 2 by table 1, piece 3 by table 0: TOTAL 0
        d.put("11").put("11").put("1");
        VideoSuite v = s.add(h.unit(d)).object();
        v.decode(400);
        Check.due("P18 kind", v.block(0, 0), 0);
        for (int b = 0; b < 16; b++) {
            Check.due("P18 mode of " + b, v.block(0, 8 + b), modes[b]);
        }
        Check.due("P18 STEP", v.block(0, 2), 24);
        Check.due("P18 luma pattern", v.block(0, 3), 1);
        Check.due("P18 chroma pattern", v.block(0, 4), 0);
        levelsOf(v, s);
    }

    private static void levelsOf(VideoSuite v, Streams s) {
        int[] due = {3, 0, -1, 0};
        for (int i = 0; i < 4; i++) {
            Check.due("P20 level(0, 0, " + i + ")", v.level(0, 0, i), due[i]);
        }
        Check.due("P20 piece 1", v.level(0, 1, 0), 0);
        Check.due("P20 EVEN 16", v.level(0, 16, 0), 0);
        Check.due("P20 EVEN 4 above 3", v.level(0, 17, 15), 0);
        Check.due("P20 a BLOCK that isn't there", v.level(1, 26, 15), 0);
        Check.bad("P20 piece 27", () -> v.level(0, 27, 0));
        Check.bad("P20 piece -1", () -> v.level(0, -1, 0));
        Check.bad("P20 place 16", () -> v.level(0, 0, 16));
        Check.bad("P20 bad before missing", () -> v.level(9, 0, -1));
        Check.missing("P20 BLOCK 2", () -> v.level(2, 0, 0));
        v.flush();
        // W of a piece: (3 at 0, 0; -1 at 0, 1) times 10 13 .. at STEP 24: 16 times
        int[] column = {128 + (3 * 160 - 208 + 32 >> 6), 128 + (480 - 104 + 32 >> 6), 128 + (480 + 104 + 32 >> 6),
            128 + (480 + 208 + 32 >> 6)};
        for (int y = 0; y < 4; y++) {
            Check.due("P14 what is left, y " + y, v.sample(0, 0, 1, y), column[y]);
        }
        Check.due("P14 left of piece 1", v.sample(0, 0, 4, 2), column[2]);
        Check.due("P14 above piece 2", v.sample(0, 0, 2, 7), column[3]);
        Streams t = new Streams().size(1, 1).sets();
        Streams.Head h = t.head(5, 2);
        h.off(1, 0, 0);
        // type 1 + 2 + 4 + 12: chroma 1, luma 15
        Bits d = h.bits().ue(19).ue(0).se(0).put("01").u(1, 0).put("011");
        for (int b = 0; b < 15; b++) {
            d.put("1");
        }
        d.put("01").u(1, 1).put("0011").put("1").u(1, 0).put("1").put("01");
        VideoSuite w = t.add(h.unit(d)).object();
        w.decode(400);
        Check.due("P24 no FAULTS", w.count(4), 0);
        int[][] at = {{16, 1, 1}, {16, 0, 0}, {15, 4, -1}, {15, 0, 0}, {14, 4, 0}, {17, 0, 1}, {18, 0, 0}, {19, 0, 0}};
        for (int[] k : at) {
            Check.due("P20 SIXTEEN, level(0, " + k[0] + ", " + k[1] + ")", w.level(0, k[0], k[1]), k[2]);
        }
        Check.due("P18 type", w.block(0, 1), 19);
        Check.due("P18 luma pattern", w.block(0, 3), 15);
        Check.due("P18 chroma pattern", w.block(0, 4), 1);
    }

    private static void edges() {
        Streams s = new Streams().size(2, 2).sets();
        s.add(s.head(5, 2).raw(10, 10, 10, 20, 20, 20, 30, 30, 30, 40, 40, 40));
        VideoSuite v = decoded(s);
        Check.missing("P21 none ended", () -> v.edge(0, 0, 0));
        v.flush();
        Check.due("P21 at the PICTURE's end", v.edge(0, 0, 0), 0);
        Check.due("P21 at the PICTURE's end", v.edge(1, 4, 1), 0);
        Check.due("P21 between BLOCKS", v.edge(1, 2, 0), 4);
        Check.due("P21 between BLOCKS", v.edge(3, 1, 1), 4);
        Check.due("P21 inside", v.edge(0, 1, 0), 3);
        Check.due("P21 inside", v.edge(3, 15, 1), 3);
        Check.due("P14 RAW ones have STEP 0", v.sample(0, 0, 16, 0), 20);
        Check.bad("P21 way 2", () -> v.edge(0, 0, 2));
        Check.bad("P21 piece 16", () -> v.edge(0, 16, 0));
        Check.bad("P21 bad before missing", () -> v.edge(9, 0, -1));
        Check.missing("P21 BLOCK 4", () -> v.edge(4, 0, 0));
        Check.missing("P21 BLOCK -1", () -> v.edge(-1, 0, 0));
        for (int off = 1; off < 3; off++) {
            Streams t = new Streams().size(2, 2).sets();
            Streams.Head h = t.head(5, 2).off(off, 0, 0);
            t.add(h.raw(1, 1, 1, 2, 2, 2, 3, 3, 3));
            t.add(t.head(5, 2).off(off, 0, 0).from(3).raw(4, 4, 4));
            VideoSuite w = flushed(t);
            Check.due("P21 inside, off " + off, w.edge(0, 1, 0), off == 1 ? 0 : 3);
            Check.due("P21 in a SLICE, off " + off, w.edge(1, 0, 0), off == 1 ? 0 : 4);
            Check.due("P21 to another SLICE, off " + off, w.edge(3, 0, 1), 0);
            Check.due("P21 to another SLICE, off " + off, w.edge(3, 0, 0), 0);
        }
        VideoSuite u = flushed(half(0, 1).add(half(0, 1).head(1, 0).at(1, 2).skipped(2)));
        Check.due("P21 of the PICTURE that ended last", u.edge(1, 0, 0), 0);
    }

    /** A PICTURE of 2 by 1, of which the second BLOCK is missing, behind one that is whole. */
    private static Streams half(int whole, int way) {
        Streams s = new Streams().size(2, 1).sets();
        if (whole == 1) {
            s.add(s0().raw(50, 60, 70, 80, 90, 100));
        }
        return s.add(s.head(5, 2).raw(10, 20, 30));
    }

    private static void mendByGrey() {
        VideoSuite v = decoded(half(0, 0));
        Check.bad("P10 way 4", () -> v.repair(4));
        Check.bad("P10 way -1", () -> v.repair(-1));
        Check.due("P10 it was 0", v.repair(3), 0);
        Check.due("P10 it was 3", v.repair(0), 3);
        v.flush();
        Check.due("P10 128", v.sample(0, 0, 16, 0), 128);
        Check.due("P10 128", v.sample(0, 1, 15, 7), 128);
        Check.due("P10 what is there stays", v.sample(0, 0, 3, 3), 10);
        Check.due("P13 REPAIRED", v.picture(0, 6), 1);
        Check.due("P13 not trusted", v.picture(0, 5), 0);
        Check.due("P22 not trusted", v.stored(0, 6), 0);
    }

    private static void mendByBefore() {
        Streams s = new Streams().size(2, 1).sets().add(s0().raw(50, 60, 70, 80, 90, 100));
        s.add(s.head(1, 2).at(1, 2).raw(10, 20, 30));
        VideoSuite v = decoded(s);
        v.repair(1);
        v.flush();
        Check.due("P10 by the one before", v.sample(1, 0, 30, 9), 80);
        Check.due("P10 by the one before", v.sample(1, 2, 8, 0), 100);
        Streams t = new Streams().size(2, 1).sets().add(s0().raw(50, 60, 70));
        VideoSuite w = decoded(t);
        w.repair(1);
        w.flush();
        Check.due("P10 none before: 128", w.sample(0, 0, 30, 9), 128);
        Streams small = new Streams().size(1, 1).sets().add(new Streams().head(5, 2).raw(33, 44, 55));
        small.size(2, 1).sets().add(s0().raw(1, 2, 3));
        VideoSuite u = decoded(small);
        u.repair(1);
        u.flush();
        Check.due("P10 outside it the nearest", u.sample(1, 0, 31, 15), 33);
    }

    private static void mendFromSides() {
        Streams s = new Streams().size(2, 2).sets();
        s.add(s.head(5, 2).from(1).raw(100, 40, 60)).add(s.head(5, 2).from(2).raw(20, 80, 200));
        VideoSuite v = decoded(s);
        v.repair(2);
        v.flush();
        Check.due("P10 no side: 128", v.sample(0, 0, 5, 5), 128);
        for (int i = 0; i < 256; i += 7) {
            int x = i % 16;
            int y = i / 16;
            int due = (100 * (16 - y) + 20 * (16 - x) + (32 - x - y) / 2) / (32 - x - y);
            Check.due("P10 both sides at " + x + ", " + y, v.sample(0, 0, 16 + x, 16 + y), due);
        }
        Check.due("P10 chroma", v.sample(0, 1, 8 + 3, 8 + 6), (40 * 2 + 80 * 5 + 3) / 7);
        Streams t = new Streams().size(2, 2).sets();
        t.add(t.head(5, 2).raw(100, 40, 60)).add(t.head(5, 2).from(3).raw(20, 80, 200));
        VideoSuite w = decoded(t);
        w.repair(2);
        w.flush();
        Check.due("P10 the left one alone", w.sample(0, 0, 31, 15), 100);
        Check.due("P10 the upper one alone", w.sample(0, 2, 7, 15), 60);
    }

    private static void mendByVector() {
        Streams s = new Streams().size(2, 2).sets();
        Bits d = s.head(5, 2).bits();
        for (int mb = 0; mb < 4; mb++) {
            d.ue(25).align(0);
            for (int i = 0; i < 384; i++) {
                d.u(8, i < 256 ? 16 * (mb % 2) + i % 16 + 100 * (mb / 2) : 9 * mb + i % 8);
            }
        }
        s.add(s.head(5, 2).unit(d));
        Streams.Head h = s.head(1, 0).at(1, 2);
        s.add(h.unit(h.bits().ue(0).ue(0).se(-22).se(6).ue(0)));
        VideoSuite v = decoded(s);
        v.repair(3);
        v.flush();
        Check.due("P10 REPAIRED", v.picture(1, 6), 3);
        Check.due("P10 by the left one's VECTOR", v.sample(1, 0, 16 + 3, 2), 16 + 3 - 5);
        Check.due("P10 by the upper one's VECTOR", v.sample(1, 0, 7, 16 + 3), 100 + 2);
        Check.due("P10 that of one that is I is 0", v.sample(1, 0, 16 + 5, 16 + 3), 100 + 16 + 5);
        Check.due("P10 chroma", v.sample(1, 1, 8 + 4, 3), v.sample(0, 1, 8 + 4 - 3, 4));
    }

    /** VECTORS that go down, and a PICTURE that differs from row to row. */
    private static void mendDown() {
        Streams s = new Streams().size(2, 1).sets();
        Bits d = s.head(5, 2).bits();
        for (int mb = 0; mb < 2; mb++) {
            d.ue(25).align(0);
            for (int i = 0; i < 384; i++) {
                d.u(8, i < 256 ? 10 * (i / 16) + i % 16 : i / 8 % 8 * 20);
            }
        }
        s.add(s.head(5, 2).unit(d));
        Streams.Head h = s.head(1, 0).at(1, 2);
        VideoSuite v = decoded(s.add(h.unit(h.bits().ue(0).ue(1).se(0).se(2).se(0).se(11).ue(0))));
        v.repair(3);
        v.flush();
        Check.due("P10 rounded to whole samples, down", v.sample(1, 0, 16 + 4, 6), 10 * 9 + 4);
        Check.due("P10 of chroma", v.sample(1, 2, 8 + 4, 3), 20 * 5);
    }

    private static void noEntries() {
        Streams s = new Streams().sets().add(s1().ref(0).raw(1, 1, 1));
        Streams.Head h = s.head(1, 0).at(0, 2);
        VideoSuite v = decoded(s.add(h.skipped(1)));
        Check.due("P24 SKIPPED without entry 0", v.fault(0, 2), 4);
        Check.due("P24 at the run", v.fault(0, 1), h.bits().length());
        Check.due("P18 it isn't there", v.block(0, 0), -1);
        h = s.head(1, 1).at(0, 2);
        v = decoded(new Streams().sets().add(s1().ref(0).raw(1, 1, 1)).add(h.skipped(1)));
        Check.due("P24 DIRECT without entry 0 of list 1", v.fault(0, 2), 4);
        h = s.head(1, 1).at(0, 2);
        v = decoded(new Streams().sets().add(s1().ref(0).raw(1, 1, 1)).add(h.unit(h.bits().ue(0).ue(0).ue(0))));
        Check.due("P24 DIRECT by its type", v.fault(0, 1), h.bits().length() + 1);
    }

    private static Streams.Head s1() {
        return new Streams().head(5, 2);
    }

    /** 2 by 1: OWN, P with a VECTOR in its second BLOCK, then B: what the second BLOCK's DIRECT is. */
    private static VideoSuite direct(int x, int y, int isLong, int space, int both) {
        Streams s = new Streams().size(2, 1);
        s.lowBits = 8;
        s.refs = 2;
        s.both = both;
        s.sets().add(s0(s).raw(90, 80, 70, 90, 80, 70));
        Streams.Head p = s.head(1, 0).at(1, 16);
        if (isLong == 1) {
            p.ops(4, 1, 6, 0);
        }
        s.add(p.unit(p.bits().ue(1).ue(0).se(x).se(y).ue(0)));
        Streams.Head b = s.head(1, 1).at(2, 4).ref(0);
        b.space = space;
        // the first BLOCK: both lists, VECTORS 12 -8 and 4 4; the second one SKIPPED
        Bits d = b.bits().ue(0).ue(3).se(12).se(-8).se(4).se(4).ue(0).ue(1);
        return decoded(s.add(b.unit(d)));
    }

    private static Streams.Head s0(Streams s) {
        return s.head(5, 2);
    }

    private static void moves(String what, VideoSuite v, int... due) {
        Check.due(what + " FAULTS", v.count(4), 0);
        for (int i = 0; i < 6; i++) {
            for (int b = 0; b < 16; b++) {
                Check.due(what + " piece " + b + " list " + i / 3 + " what " + i % 3, v.vector(1, b, i / 3, i % 3), due[i]);
            }
        }
    }

    private static void directBySpace() {
        moves("P19 STILL", direct(0, 0, 0, 1, 0), 0, 0, 0, 0, 0, 0);
        moves("P19 STILL", direct(1, -1, 0, 1, 0), 0, 0, 0, 0, 0, 0);
        moves("P19 STILL", direct(-1, 1, 0, 1, 0), 0, 0, 0, 0, 0, 0);
        moves("P19 x too far", direct(2, 0, 0, 1, 0), 12, -8, 0, 4, 4, 0);
        moves("P19 x too far", direct(-2, 0, 0, 1, 0), 12, -8, 0, 4, 4, 0);
        moves("P19 y too far", direct(0, 2, 0, 1, 0), 12, -8, 0, 4, 4, 0);
        moves("P19 y too far", direct(0, -2, 0, 1, 0), 12, -8, 0, 4, 4, 0);
        moves("P19 a LONG one", direct(0, 0, 1, 1, 0), 12, -8, 0, 4, 4, 0);
    }

    private static void directByTime() {
        // tb 4, td 16: k 64
        moves("P19 by time", direct(40, -21, 0, 0, 0), 10, -5, 0, 10 - 40, -5 + 21, 0);
        moves("P19 by time", direct(-3, 7, 0, 0, 0), -3 * 64 + 128 >> 8, 7 * 64 + 128 >> 8, 0,
                (-3 * 64 + 128 >> 8) + 3, (7 * 64 + 128 >> 8) - 7, 0);
        VideoSuite v = direct(40, -21, 0, 0, 0);
        Check.due("P18 SKIPPED", v.block(1, 1), -1);
        Check.due("P18 by lists", v.block(1, 0), 3);
        // of the LONG one all are: the P is entry 0 of list 1 still
        v = direct(40, -21, 1, 0, 0);
        moves("P19 by time to a SHORT one", v, 10, -5, 0, -30, 16, 0);
        Streams s = new Streams().size(2, 1);
        s.lowBits = 8;
        s.refs = 2;
        s.both = 2;
        Streams.Head own = s.sets().head(5, 2);
        own.isLong = 1;
        Streams.Head p = s.add(own.raw(90, 80, 70, 90, 80, 70)).head(1, 0).at(1, 16);
        s.add(p.unit(p.bits().ue(0).ue(0).se(40).se(-21).ue(0).ue(1)));
        Streams.Head b = s.head(1, 1).at(2, 4).ref(0).n(2, 1).moves(1, 0, 0);
        b.space = 0;
        v = s.add(b.skipped(2)).object();
        v.decode(400);
        Check.due("P23 list 0", v.entry(0, 1), 0);
        int[] due = {40, -21, 1, 0, 0, 0};
        for (int i = 0; i < 6; i++) {
            Check.due("P19 that picture LONG: whole, what " + i, v.vector(0, 7, i / 3, i % 3), due[i]);
        }
    }

    /** OWN of REF 0 leaves references of another size in the lists. */
    private static void directOfOtherSize() {
        Streams s = new Streams();
        s.lowBits = 8;
        s.refs = 2;
        s.sets().add(s.head(5, 2).raw(9, 9, 9)).add(s.head(1, 0).at(1, 8).skipped(1));
        s.size(2, 1);
        Streams.Head own = s.head(5, 2).ref(0);
        own.ownId = 1;
        s.sets().add(own.raw(5, 5, 5, 6, 6, 6));
        Streams.Head b = s.head(1, 1).at(1, 4).ref(0);
        b.space = 0;
        Streams.Head c = s.head(1, 1).at(1, 4).ref(0);
        VideoSuite v = flushed(s.add(b.skipped(2)));
        Check.due("P24 no FAULTS", v.count(4), 0);
        Check.due("P19 no such BLOCK: reference 0", v.vector(1, 0, 0, 2), 0);
        Check.due("P19 of both", v.vector(1, 0, 1, 2), 0);
        Check.due("P14 outside it the nearest", v.sample(v.count(3) - 1, 0, 31, 15), 9);
        Check.due("P13 width", v.picture(v.count(3) - 1, 0), 32);
        v = flushed(s.add(c.skipped(2)));
        Check.due("P24 no FAULTS", v.count(4), 0);
    }

    private static void newPictures() {
        Streams s = new Streams().size(2, 1).sets();
        s.refs = 1;
        s.add(s0().raw(1, 1, 1)).add(s.head(5, 2).from(1).raw(2, 2, 2));
        VideoSuite v = decoded(s);
        Check.due("P11 one PICTURE of two SLICES", v.flush(), 1);
        Check.due("P18 number of its SLICE", v.block(1, 6), 1);
        Streams.Head h = s.head(5, 2).from(1);
        h.ownId = 1;
        v = decoded(new Streams().size(2, 1).sets().add(s0().raw(1, 1, 1)).add(h.raw(2, 2, 2)));
        Check.due("P11 another own id", v.flush(), 2);
        h = s.head(5, 2).at(0, 1).from(1);
        v = decoded(new Streams().size(2, 1).sets().add(s0().raw(1, 1, 1)).add(h.raw(2, 2, 2)));
        Check.due("P11 another LOW", v.flush(), 2);
        h = s.head(5, 2).from(1).ref(0);
        v = decoded(new Streams().size(2, 1).sets().add(s0().raw(1, 1, 1)).add(h.raw(2, 2, 2)));
        Check.due("P11 another REF", v.flush(), 2);
        h = s.head(5, 2).from(1).ref(3);
        v = decoded(new Streams().size(2, 1).sets().add(s0().raw(1, 1, 1)).add(h.raw(2, 2, 2)));
        Check.due("P11 REF of not 0 is the same", v.flush(), 1);
        Check.due("P13 REF of the first SLICE", v.picture(0, 4), 1);
        v = decoded(new Streams().size(2, 1).sets().add(s0().raw(1, 1, 1, 1, 1, 1)).add(s.head(1, 2).at(1, 2).ref(0)
                .raw(1, 1, 1)).add(s.head(1, 2).at(0, 2).ref(0).from(1).raw(2, 2, 2)));
        Check.due("P11 another FRAME", v.flush(), 3);
        Streams two = new Streams().size(2, 1).sets();
        h = s.head(5, 2).from(1);
        h.pars = 2;
        v = decoded(two.add(two.parameters(2, 0)).add(s0().raw(1, 1, 1)).add(h.raw(2, 2, 2)));
        Check.due("P11 other PARAMETERS", v.flush(), 2);
        h = s.head(1, 2).from(1);
        v = decoded(new Streams().size(2, 1).sets().add(s0().raw(1, 1, 1)).add(h.raw(2, 2, 2)));
        Check.due("P11 another TYPE", v.flush(), 2);
        h = s.head(5, 2).from(0);
        v = decoded(new Streams().size(2, 1).sets().add(s0().raw(1, 1, 1)).add(h.raw(2, 2, 2)));
        Check.due("P11 first 0", v.flush(), 2);
        for (int i = 0; i < 3; i++) {
            Streams k = new Streams().size(2, 1);
            k.kind = 1;
            k.same = 0;
            k.pair = 1;
            k.sets().add(k.head(5, 2).raw(1, 1, 1));
            h = k.head(5, 2).from(1);
            h.d0 = i == 1 ? 1 : 0;
            h.d1 = i == 2 ? 1 : 0;
            v = decoded(k.add(h.raw(2, 2, 2)));
            Check.due("P11 another d0 or d1, " + i, v.flush(), i == 0 ? 1 : 2);
        }
        Streams t = new Streams().size(2, 1).sets();
        v = decoded(t.add(s0().raw(1, 1, 1)).add(t.sequence(3)).add(s.head(5, 2).from(1).raw(2, 2, 2)));
        Check.due("P11 a SET between", v.flush(), 2);
        t = new Streams().size(2, 1).sets();
        t.add(s0().raw(1, 1, 1, 2, 2, 2)).add(t.head(1, 0).at(1, 2).from(0).skipped(1));
        h = t.head(1, 2).at(1, 2).from(1);
        v = decoded(t.add(h.raw(7, 7, 7)));
        Check.due("P11 of another sort is the same", v.flush(), 2);
        Check.due("P13 the sort of the first SLICE", v.picture(1, 3), 0);
    }

    private static int[] orders(VideoSuite v) {
        int[] o = new int[v.count(3)];
        for (int k = 0; k < o.length; k++) {
            o[k] = v.picture(k, 2);
        }
        return o;
    }

    private static void same(String what, int[] got, int... due) {
        Check.due(what + " " + java.util.Arrays.toString(got), java.util.Arrays.equals(got, due) ? 1 : 0, 1);
    }

    private static void outOrder() {
        Streams s = new Streams();
        s.lowBits = 8;
        s.refs = 2;
        s.sets().add(s.head(5, 2).raw(1, 1, 1));
        s.add(s.head(1, 2).at(1, 8).raw(2, 2, 2)).add(s.head(1, 2).at(2, 4).ref(0).raw(3, 3, 3));
        VideoSuite v = decoded(s);
        Check.due("P12 under way, nothing is out", v.count(3), 0);
        v.flush();
        same("P12 by rising ORDER", orders(v), 0, 4, 8);
        s.add(s.head(1, 2).at(2, 6).ref(0).raw(4, 4, 4));
        v = flushed(s);
        same("P12", orders(v), 0, 4, 6, 8);
        Streams t = new Streams();
        t.lowBits = 8;
        t.sets().add(t.head(5, 2).at(0, 20).raw(1, 1, 1)).add(t.head(1, 2).at(1, 10).ref(0).raw(2, 2, 2));
        v = decoded(t.add(t.head(1, 2).at(1, 12).ref(0).raw(2, 2, 2)));
        same("P12 no REFERENCE, none WAITING is lesser: at once", orders(v), 10);
        v.flush();
        same("P12", orders(v), 10, 12, 20);
        Check.due("P15 the second one", v.sample(2, 0, 0, 0), 1);
        Streams u = new Streams();
        u.lowBits = 8;
        u.sets().add(u.head(5, 2).raw(1, 1, 1));
        for (int i = 1; i < 8; i++) {
            u.add(u.head(1, 2).at(i, 100 - 4 * i).raw(i, i, i));
        }
        v = decoded(u);
        same("P22 full: the least goes out", orders(v), 0);
        Check.due("P41 in the STORE", v.count(5), 6);
        Check.due("P22 the order in which they were stored", v.stored(0, 1), 96);
        Check.due("P22 WAITING, no reference", v.stored(0, 2), 0);
        Check.due("P22 the latest is a reference", v.stored(5, 2), 1);
        v = flushed(u.add(u.head(1, 2).at(8, 10).raw(9, 9, 9)));
        same("P12 FLUSH", orders(v), 0, 76, 72, 10, 80, 84, 88, 92, 96);
        Check.due("P12 references stay", v.count(5), 1);
        Check.due("P22 not WAITING", v.stored(0, 4), 0);
        u.add(u.head(5, 2).at(0, 3).raw(1, 1, 1));
        v = flushed(u);
        Check.due("P13 OWN: all WAITING before it", v.picture(9, 2), 3);
    }

    private static void dropAndLong() {
        Streams s = new Streams();
        s.refs = 2;
        s.sets().add(s.head(5, 2).raw(1, 1, 1)).add(s.head(1, 2).at(1, 4).raw(2, 2, 2));
        Streams.Head h = s.head(5, 2).at(0, 2);
        h.drop = 1;
        h.isLong = 1;
        h.ownId = 1;
        VideoSuite v = decoded(s.add(h.raw(3, 3, 3)));
        Check.due("P12 drop: they go", v.flush(), 1);
        same("P12", orders(v), 2);
        Check.due("P22 LONG", v.stored(0, 2), 2);
        Check.due("P22 its number", v.stored(0, 3), 0);
        Check.due("P22 trusted", v.stored(0, 6), 1);
        Check.due("P22 not made up", v.stored(0, 5), 0);
        Check.bad("P22 what 7", () -> v.stored(0, 7));
        Check.bad("P22 bad before missing", () -> v.stored(9, -1));
        Check.missing("P22 PICTURE 1", () -> v.stored(1, 0));
        Check.missing("P22 PICTURE -1", () -> v.stored(-1, 0));
    }

    /** use of those in the STORE, and their FRAMES or LONG numbers, as one text. */
    private static String store(VideoSuite v) {
        StringBuilder t = new StringBuilder();
        for (int i = 0; i < v.count(5); i++) {
            int use = v.stored(i, 2);
            t.append(use == 1 ? "S" + v.stored(i, 0) : use == 2 ? "L" + v.stored(i, 3) : "-").append(' ');
        }
        return t.toString().trim();
    }

    private static void sameText(String what, String got, String due) {
        Check.due(what + " [" + got + "] [" + due + "]", got.equals(due) ? 1 : 0, 1);
    }

    private static Streams many(int refs, int n) {
        Streams s = new Streams();
        s.lowBits = 8;
        s.refs = refs;
        s.sets().add(s.head(5, 2).raw(0, 0, 0));
        for (int i = 1; i < n; i++) {
            s.add(s.head(1, 2).at(i, 2 * i).raw(i, i, i));
        }
        return s;
    }

    private static void ops() {
        sameText("P22 SLIDING", store(flushed(many(3, 5))), "S2 S3 S4");
        sameText("P22 REFS 0 counts as 1", store(flushed(many(0, 3))), "S2");
        Streams s = many(4, 3);
        s.add(s.head(1, 2).at(3, 6).ops(1, 1).raw(9, 9, 9));
        sameText("P22 op 1", store(flushed(s)), "S0 S2 S3");
        s = many(4, 3);
        s.add(s.head(1, 2).at(3, 6).ops(4, 2, 3, 2, 1).raw(9, 9, 9));
        sameText("P22 op 3", store(flushed(s)), "L1 S1 S2 S3");
        s.add(s.head(1, 2).at(4, 8).ops(3, 1, 1).raw(9, 9, 9));
        sameText("P22 op 3: the other one goes", store(flushed(s)), "S1 L1 S3 S4");
        s.add(s.head(1, 2).at(5, 10).ops(2, 1, 6, 0).raw(9, 9, 9));
        sameText("P22 ops 2 and 6", store(flushed(s)), "S1 S3 S4 L0");
        s.add(s.head(1, 2).at(6, 12).ops(4, 0).raw(9, 9, 9));
        sameText("P22 op 4", store(flushed(s)), "S1 S3 S4 S6");
        s = many(2, 2);
        s.add(s.head(1, 2).at(2, 4).ops(4, 2, 3, 1, 1).raw(9, 9, 9));
        sameText("P22 above REFS: the SHORT one", store(flushed(s)), "L1 S2");
        s.add(s.head(1, 2).at(3, 6).ops(3, 0, 0).raw(9, 9, 9));
        sameText("P22 above REFS: the LONG one of the least number", store(flushed(s)), "L1 S3");
        s = many(2, 2);
        s.add(s.head(1, 2).at(2, 4).ops(4, 2, 3, 1, 0).raw(9, 9, 9));
        s.add(s.head(1, 2).at(3, 6).ops(3, 0, 1).raw(9, 9, 9));
        sameText("P22 above REFS: the least number stored first", store(flushed(s)), "L1 S3");
        s = many(3, 2);
        s.add(s.head(1, 2).at(2, 4).ops(4, 1, 6, 0, 2, 0, 4, 0).raw(9, 9, 9));
        sameText("P22 ops behind a 6 leave it alone", store(flushed(s)), "S0 S1 L0");
    }

    private static void marksOfMissing() {
        Streams s = many(3, 2);
        s.add(s.head(1, 2).at(2, 4).ops(1, 7, 2, 3, 3, 9, 0, 6, 0, 3, 0, 2).raw(9, 9, 9));
        VideoSuite v = flushed(s);
        sameText("P22 what is missing or may not be: nothing", store(v), "S0 S1 S2");
        Check.due("P24 no FAULTS", v.count(4), 0);
    }

    private static void clearingOp() {
        Streams s = many(3, 3);
        s.add(s.head(1, 2).at(3, 6).ops(5).raw(9, 9, 9));
        VideoSuite v = decoded(s);
        Check.due("P17 ORDER as it began", v.slice(17), 6);
        v.flush();
        sameText("P22 op 5", store(v), "S0");
        same("P13 its ORDER becomes 0", orders(v), 0, 2, 4, 0);
        s.add(s.head(1, 0).at(1, 3).skipped(1));
        v = flushed(s);
        Check.due("P24 FRAME goes on from 0", v.count(4), 0);
        Check.due("P13 ORDER goes on from 0", v.picture(4, 2), 3);
        sameText("P22", store(v), "S0 S1");
    }

    private static void gaps() {
        Streams s = new Streams();
        s.lowBits = 8;
        s.refs = 4;
        s.gaps = 1;
        s.sets().add(s.head(5, 2).raw(77, 66, 55)).add(s.head(1, 0).at(3, 4).skipped(1));
        VideoSuite v = decoded(s);
        sameText("P22 made up", store(v), "S0 S1 S2");
        Check.due("P22 made up", v.stored(1, 5), 1);
        Check.due("P22 not trusted", v.stored(2, 6), 0);
        Check.due("P22 not WAITING", v.stored(1, 4), 0);
        Check.due("P22 ORDER 0", v.stored(2, 1), 0);
        Check.due("P23 the list", v.entry(0, 0), 0);
        v.flush();
        Check.due("P14 its samples are the latest REFERENCE's", v.sample(1, 0, 3, 3), 77);
        Check.due("P14", v.sample(1, 2, 3, 3), 55);
        Check.due("P13 what refers to it is not trusted", v.picture(1, 5), 0);
        Check.due("P12 those made up are never put out", v.count(3), 2);
        s.add(s.head(1, 2).at(14, 9).raw(1, 1, 1));
        v = decoded(s);
        sameText("P22 the last 6, SLIDING", store(v), "- - S10 S11 S12 S13");
        Streams t = many(2, 2);
        t.gaps = 1;
        t = new Streams();
        t.gaps = 1;
        t.refs = 2;
        t.sets().add(t.head(5, 2).raw(7, 7, 7)).add(t.head(1, 2).at(15, 2).raw(5, 5, 5));
        t.add(t.head(1, 2).at(1, 4).raw(6, 6, 6));
        v = flushed(t);
        sameText("P22 modulo 2^bits", store(v), "S0 S1");
        Check.due("P22 made up between", v.stored(0, 5), 1);
    }

    private static void gapsRefused() {
        Streams s = new Streams();
        s.sets().add(s.head(5, 2).raw(7, 7, 7)).add(s.head(1, 2).at(2, 4).raw(1, 1, 1));
        VideoSuite v = decoded(s);
        Check.due("P24 kind", v.fault(0, 2), 4);
        Check.due("P24 FRAME's place", v.fault(0, 1), 5);
        Check.due("P17 nothing begins", v.count(7), 1);
        Check.due("P41 what was under way ended", v.count(6), 0);
        Check.due("P22 it is stored", v.count(5), 1);
        s.add(s.head(1, 2).at(1, 4).raw(1, 1, 1)).add(s.head(1, 2).at(1, 6).ref(0).raw(1, 1, 1));
        v = flushed(s);
        Check.due("P24 the same FRAME as LAST is right", v.count(4), 1);
        Check.due("P12", v.count(3), 3);
    }

    private static String list(VideoSuite v, int which) {
        StringBuilder t = new StringBuilder();
        for (int i = 0; i < 8; i++) {
            int k = i;
            long e = Check.told(() -> v.entry(which, k));
            t.append(e == -1000002 ? "." : String.valueOf(e)).append(' ');
        }
        return t.toString().trim();
    }

    private static void lists() {
        Streams s = many(4, 4);
        s.add(s.head(1, 0).at(4, 8).n(4).skipped(1));
        VideoSuite v = decoded(s);
        sameText("P23 by falling FRAMENUM", list(v, 0), "6 4 2 0 . . . .");
        sameText("P23 no list 1", list(v, 1), ". . . . . . . .");
        Check.bad("P23 list 2", () -> v.entry(2, 0));
        Check.bad("P23 list -1", () -> v.entry(-1, 0));
        Check.missing("P23 entry 4", () -> v.entry(0, 4));
        Check.missing("P23 entry -1", () -> v.entry(0, -1));
        Check.missing("P23 entry 9", () -> v.entry(0, 9));
        s = many(4, 4);
        v2("P23 cut to N", s.add(s.head(1, 0).at(4, 8).n(2).skipped(1)), "6 4 . . . . . .", ". . . . . . . .");
        s = many(4, 3);
        s.add(s.head(1, 2).at(3, 6).ops(4, 3, 3, 2, 2, 3, 0, 0).raw(1, 1, 1));
        v2("P23 LONG by rising number", s.add(s.head(1, 0).at(4, 8).n(8).skipped(1)), "6 2 4 0 . . . .",
                ". . . . . . . .");
        s = many(3, 15);
        s.add(s.head(1, 2).at(15, 30).raw(1, 1, 1)).add(s.head(1, 2).at(0, 32).raw(1, 1, 1));
        v2("P23 FRAMENUM below 0", s.add(s.head(1, 0).at(1, 34).n(3).skipped(1)), "32 30 28 . . . . .",
                ". . . . . . . .");
        s = many(1, 1);
        v2("P23 an I SLICE has none", s.add(s.head(1, 2).at(1, 8).raw(1, 1, 1)), ". . . . . . . .", ". . . . . . . .");
    }

    private static void v2(String what, Streams s, String list0, String list1) {
        VideoSuite v = decoded(s);
        sameText(what, list(v, 0), list0);
        sameText(what, list(v, 1), list1);
    }

    private static void listsOfB() {
        Streams s = new Streams();
        s.lowBits = 8;
        s.refs = 4;
        s.sets().add(s.head(5, 2).raw(0, 0, 0)).add(s.head(1, 2).at(1, 20).raw(1, 1, 1));
        s.add(s.head(1, 2).at(2, 8).raw(2, 2, 2)).add(s.head(1, 2).at(3, 12).raw(3, 3, 3));
        byte[] b = s.head(1, 1).at(4, 10).ref(0).n(8, 8).skipped(1);
        v2("P23 B", s.add(b), "8 0 12 20 . . . .", "12 20 8 0 . . . .");
        b = s.head(1, 1).at(4, 30).ref(0).n(8, 8).skipped(1);
        v2("P23 the same lists: the first two change places", s.add(b), "20 12 8 0 . . . .", "12 20 8 0 . . . .");
        b = s.head(1, 1).at(4, 30).ref(0).n(8, 1).skipped(1);
        v2("P23 before they are cut", s.add(b), "20 12 8 0 . . . .", "12 . . . . . . .");
        b = s.head(1, 1).at(4, 12).ref(0).n(8, 8).skipped(1);
        v2("P23 one of the same ORDER is in no list", s.add(b), "8 0 20 . . . . .", "20 8 0 . . . . .");
        Streams t = many(1, 1);
        b = t.head(1, 1).at(1, 10).ref(0).n(2, 2).skipped(1);
        v2("P23 one entry is the same", t.add(b), "0 . . . . . . .", "0 . . . . . . .");
    }

    private static void moves() {
        Streams s = many(4, 4);
        byte[] p = s.head(1, 0).at(4, 8).n(3).moves(0, 0, 2, 1, 1).skipped(1);
        v2("P23 moves", s.add(p), "2 6 4 . . . . .", ". . . . . . . .");
        s = many(4, 4);
        p = s.head(1, 0).at(4, 8).n(3).moves(0, 1, 12).skipped(1);
        v2("P23 modulo 2^bits", s.add(p), "2 6 4 . . . . .", ". . . . . . . .");
        s = many(4, 4);
        p = s.head(1, 0).at(4, 8).n(2).moves(0, 0, 0, 0, 15).skipped(1);
        v2("P23 the same one twice", s.add(p), "6 6 . . . . . .", ". . . . . . . .");
        s = many(4, 4);
        p = s.head(1, 0).at(4, 8).n(5).moves(0, 0, 3).skipped(1);
        v2("P23 what isn't there stays behind", s.add(p), "0 6 4 2 . . . .", ". . . . . . . .");
        s = many(4, 3);
        s.add(s.head(1, 2).at(3, 6).ops(4, 3, 3, 2, 2, 3, 0, 0).raw(1, 1, 1));
        p = s.head(1, 1).at(4, 8).ref(0).n(3, 2).moves(0, 2, 2).moves(1, 2, 0, 0, 0).skipped(1);
        v2("P23 LONG ones, both lists", s.add(p), "0 6 2 . . . . .", "4 6 . . . . . .".replace("4", "2")
                .replace("2 6", "4 6"));
        Streams u = many(4, 4);
        Streams.Head h = u.head(1, 0).at(4, 8).n(3).moves(0, 0, 7);
        VideoSuite v = decoded(u.add(h.skipped(1)));
        Check.due("P24 there is no such one", v.fault(0, 2), 4);
        Check.due("P24 where the last ELEMENT of the HEADER began", v.fault(0, 1), h.bits().length() - 1);
        Check.due("P17 the SLICE was begun", v.slice(3), 4);
        Check.due("P17 no BLOCK", v.slice(16), 0);
        u = many(4, 4);
        v = decoded(u.add(u.head(1, 0).at(4, 8).n(1).moves(0, 0, 0, 0, 0).skipped(1)));
        Check.due("P24 a place of N", v.fault(0, 2), 4);
        u = many(4, 4);
        v = decoded(u.add(u.head(1, 0).at(4, 8).n(1).moves(0, 2, 0).skipped(1)));
        Check.due("P24 no LONG one", v.fault(0, 2), 4);
        Streams w = many(1, 1);
        h = w.head(1, 0).at(1, 2).n(3);
        v = decoded(w.add(h.unit(h.bits().ue(0).ue(0).ue(1))));
        Check.due("P24 an entry that isn't there", v.fault(0, 2), 4);
        Check.due("P24 at the reference", v.fault(0, 1), h.bits().length() + 2);
    }

    private static int orderOf(Streams s, Streams.Head h) {
        return decoded(s.add(h.raw(1, 1, 1))).slice(17);
    }

    private static void orders() {
        Streams s = new Streams().sets();
        s.add(s.head(5, 2).at(0, 9).raw(1, 1, 1));
        Check.due("P17 OWN: LOW above 8", decoded(s).slice(17), -7);
        Check.due("P17 LOW goes on", orderOf(s, s.head(1, 2).at(1, 14)), -2);
        Check.due("P17 LOW turns", orderOf(s, s.head(1, 2).at(2, 6)), 6);
        Check.due("P17 LOW turns back", orderOf(s, s.head(1, 2).at(3, 15).ref(0)), -1);
        Check.due("P17 by the REFERENCE before", orderOf(s, s.head(1, 2).at(3, 14)), 14);
        Streams t = new Streams();
        t.pair = 1;
        t.sets();
        Streams.Head h = t.head(5, 2).at(0, 4);
        h.d0 = 3;
        Check.due("P17 d0 above 0", orderOf(t, h), 4);
        h = t.head(1, 2).at(1, 4);
        h.d0 = -3;
        Check.due("P17 d0 below 0", orderOf(t, h), 1);
        Streams u = new Streams();
        u.kind = 2;
        u.sets().add(u.head(5, 2).raw(1, 1, 1));
        Check.due("P17 kind 2", orderOf(u, u.head(1, 2).at(1, 0)), 2);
        Check.due("P17 kind 2, no REFERENCE", orderOf(u, u.head(1, 2).at(2, 0).ref(0)), 3);
        u = new Streams();
        u.kind = 2;
        u.sets().add(u.head(5, 2).raw(1, 1, 1));
        for (int i = 1; i < 18; i++) {
            u.add(u.head(1, 2).at(i % 16, 0).raw(1, 1, 1));
        }
        Check.due("P17 kind 2 turns", decoded(u).slice(17), 34);
        kindOne();
    }

    private static void kindOne() {
        Streams s = new Streams();
        s.kind = 1;
        s.same = 0;
        s.pair = 1;
        s.apart = -5;
        s.below = 4;
        s.turns = new int[] {3, 10};
        s.sets();
        Streams.Head h = s.head(5, 2);
        h.d0 = 2;
        h.d1 = -7;
        Check.due("P17 kind 1, OWN", orderOf(s, h), -1);
        Check.due("P17 kind 1", orderOf(s, s.head(1, 2).at(1, 0)), 3);
        Check.due("P17 kind 1", orderOf(s, s.head(1, 2).at(2, 0)), 13);
        Check.due("P17 kind 1", orderOf(s, s.head(1, 2).at(3, 0)), 16);
        Check.due("P17 kind 1, no REFERENCE", orderOf(s, s.head(1, 2).at(4, 0).ref(0)), 11);
        Streams t = new Streams();
        t.kind = 1;
        t.apart = 9;
        t.sets().add(t.head(5, 2).raw(1, 1, 1));
        Check.due("P17 kind 1, n 0", orderOf(t, t.head(1, 2).at(1, 0)), 0);
        Check.due("P17 kind 1, n 0, no REFERENCE", orderOf(t, t.head(1, 2).at(2, 0).ref(0)), 9);
    }

    private static void weights() {
        Streams s = new Streams();
        s.weighted = 1;
        s.sets().add(s.head(5, 2).raw(100, 100, 100));
        Streams.Head h = s.head(1, 0).at(1, 2);
        h.weights = new int[] {2, 0, 3, 10};
        VideoSuite v = flushed(s.add(h.skipped(1)));
        Check.due("P14 weighted", v.sample(1, 0, 0, 0), (100 * 3 + 2 >> 2) + 10);
        Check.due("P14 chroma plain", v.sample(1, 1, 0, 0), 100);
        Streams t = new Streams();
        t.lowBits = 8;
        t.refs = 2;
        t.both = 2;
        t.sets().add(t.head(5, 2).raw(100, 100, 100)).add(t.head(1, 2).at(1, 16).raw(180, 20, 60));
        v = flushed(t.add(t.head(1, 1).at(2, 4).ref(0).skipped(1)));
        Check.due("P14 by time", v.sample(1, 0, 0, 0), 100 * 48 + 180 * 16 + 32 >> 6);
        Check.due("P14 by time", v.sample(1, 1, 0, 0), 100 * 48 + 20 * 16 + 32 >> 6);
        Streams u = new Streams();
        u.lowBits = 8;
        u.refs = 2;
        u.both = 1;
        u.sets().add(u.head(5, 2).raw(100, 100, 100)).add(u.head(1, 2).at(1, 16).raw(180, 20, 60));
        h = u.head(1, 1).at(2, 4).ref(0);
        h.weights = new int[] {5, 5, 20, -7, 40, 4};
        v = flushed(u.add(h.skipped(1)));
        Check.due("P14 both weighted", v.sample(1, 0, 0, 0), (100 * 20 + 180 * 40 + 32 >> 6) + (-7 + 4 + 1 >> 1));
        Check.due("P14 both plain", v.sample(1, 2, 0, 0), 80);
    }

    private static void anewAndEffort() {
        Streams s = half(1, 0);
        VideoSuite v = flushed(s);
        v.repair(2);
        Check.due("P9 anew", v.anew(), 4);
        int[] zero = {2, 3, 4, 5, 6, 7, 8};
        for (int what : zero) {
            Check.due("P9 count(" + what + ")", v.count(what), 0);
        }
        Check.due("P9 the STREAM stays", v.count(1), 4);
        Check.missing("P9 no SETS", () -> v.set(0, 0, 0));
        Check.missing("P9 no SETS", () -> v.set(1, 0, 0));
        Check.missing("P9 no OUTPUTS", () -> v.picture(0, 0));
        Check.missing("P9 no SLICE", () -> v.slice(0));
        Check.missing("P9 no entry", () -> v.entry(0, 0));
        Check.missing("P9 no edge", () -> v.edge(0, 0, 0));
        v.decode(400);
        v.flush();
        Check.due("P9 the way of REPAIR stays", v.sample(1, 0, 31, 0), 10);
        Streams t = new Streams().size(8, 4).sets();
        for (int i = 0; i < 100; i++) {
            t.add(t.head(5, 2).unit(t.head(5, 2).bits()));
        }
        VideoSuite w = t.object();
        for (int i = 0; i < 5; i++) {
            Check.due("P11 EFFORT below 16000", w.decode(400), 102);
            w.anew();
        }
        Check.refused("P11 EFFORT 16000, also before anew", () -> w.decode(1));
        Check.bad("P11 bad before REFUSED", () -> w.decode(0));
        Check.due("P11 nothing was decoded", w.count(2), 0);
    }

    private static void manyOutputs() {
        Streams s = new Streams().sets();
        for (int i = 0; i < 45; i++) {
            Streams.Head h = s.head(5, 2).at(0, 1 + i % 7);
            h.ownId = i;
            s.add(h.unit(h.bits().ue(3).ue(0).se(0).u(1, 1)));
        }
        VideoSuite v = decoded(s);
        Check.due("P12 all are counted", v.flush(), 45);
        Check.due("P13 OUTPUT 39", v.picture(39, 2), 1 + 39 % 7);
        Check.missing("P13 OUTPUT 40 is not kept", () -> v.picture(40, 2));
        Check.missing("P14 OUTPUT 40 is not kept", () -> v.sample(40, 0, 0, 0));
        Check.missing("P15 OUTPUT 40 is not kept", () -> v.sum(40, 0));
        Check.missing("P40 OUTPUT 40 is not kept", () -> v.histogram(40, 0, 0));
    }
}
